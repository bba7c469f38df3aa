/** The sentences of the promises 20 to 29 (words beside each other, a lost language), each one with a test of its own. */
public final class BesideEdgesTest extends FamilyTools {
    public static void main(String[] args) {
        twoWords();
        twoLanguages();
        lostLanguage();
        for (int promise = 20; promise <= 29; promise++) {
            Sentences.complete("Promise " + promise);
        }
        Check.end();
    }

    private static void say(int promise, String words, Runnable test) {
        Sentences.of("Promise " + promise, words, test);
    }

    private static void twoWords() {
        say(20, "Returns the least cost of an alignment of their WORDS for it", BesideEdgesTest::leastCosts);
        say(20, "-1 if one of both has none", BesideEdgesTest::costWithoutWord);
        say(20, "if there is no such LANGUAGE", () -> noSuchPair((x, one, other) -> x.cost(11, one, other)));
        say(20, "if meaning is not 0 to 11", () -> noSuchMeaning((x, meaning) -> x.cost(meaning, 0, 1)));
        say(21, "Returns how many columns the alignment of their WORDS for it has", BesideEdgesTest::columnCounts);
        say(21, "0 if one of both has none", BesideEdgesTest::columnsWithoutWord);
        say(21, "if there is no such LANGUAGE", () -> noSuchPair((x, one, other) -> x.columns(11, one, other)));
        say(21, "if meaning is not 0 to 11", () -> noSuchMeaning((x, meaning) -> x.columns(meaning, 0, 1)));
        say(22, "Returns 16 times what the first one has there, and what the second one has, more", BesideEdgesTest::columnSums);
        say(22, "16 stands for a gap", BesideEdgesTest::gapsInColumns);
        say(22, "if there is no such LANGUAGE", () -> noSuchPair((x, one, other) -> x.columnAt(11, one, other, 0)));
        say(22, "if meaning is not 0 to 11", () -> noSuchMeaning((x, meaning) -> x.columnAt(meaning, 0, 1, 0)));
        say(22, "or there is no such column", BesideEdgesTest::noSuchColumn);
    }

    private static void twoLanguages() {
        say(23, "Returns how often the one answers to the other one.", BesideEdgesTest::answerCounts);
        say(23, "if there is no such LANGUAGE", () -> noSuchPair((x, one, other) -> x.answers(one, other, 0, 0)));
        say(23, "if sound or answer is not -1 to 15", BesideEdgesTest::noSuchAnswer);
        say(24, "Returns what answers to it most often", BesideEdgesTest::mostOften);
        say(24, "(-1 for a gap)", BesideEdgesTest::gapMostOften);
        say(24, "of several a SOUND ahead of a gap", BesideEdgesTest::soundAheadOfGap);
        say(24, "the smallest one first", BesideEdgesTest::smallestFirst);
        say(24, "-2 if nothing ever does", BesideEdgesTest::nothingAnswers);
        say(24, "if there is no such LANGUAGE", () -> noSuchPair((x, one, other) -> x.mainAnswer(one, other, 0)));
        say(24, "if sound is not 0 to 15", BesideEdgesTest::noSuchSound);
        say(25, "Returns their FAR", BesideEdgesTest::fars);
        say(25, "0 if there is no MEANING for which both have WORDS", BesideEdgesTest::farWithoutWords);
        say(25, "if there is no such LANGUAGE", () -> noSuchPair((x, one, other) -> x.far(one, other)));
        say(26, "Returns the other one that is least FAR from it", BesideEdgesTest::leastFar);
        say(26, "of those that have any MEANING with it", BesideEdgesTest::nearestWithoutWords);
        say(26, "of several the smallest", BesideEdgesTest::nearestOfSeveral);
        say(26, "-1 without one", BesideEdgesTest::nearestWithoutOther);
        say(26, "if there is no such LANGUAGE", () -> boundsOfLanguage((x, language) -> x.nearest(language)));
    }

    private static void lostLanguage() {
        say(27, "Returns of how many SOUNDS the WORD is that is RECALLED", BesideEdgesTest::recalledLengths);
        say(27, "0 if there is nothing", BesideEdgesTest::nothingRecalled);
        say(27, "if there is no such LANGUAGE, or MEANING", () -> noSuchWord((x, l, m) -> x.recalled(l, m)));
        say(28, "Returns the SOUND there.", BesideEdgesTest::recalledSounds);
        say(28, "if there is no such LANGUAGE, or MEANING", () -> noSuchWord((x, l, m) -> x.recalledAt(l, m, 0)));
        say(28, "or no such place", BesideEdgesTest::noSuchRecalledPlace);
        say(29, "Returns for how many MEANINGS for which it has a WORD this is just what is RECALLED.",
            BesideEdgesTest::recalledWellCounts);
        say(29, "if there is no such LANGUAGE", () -> boundsOfLanguage((x, language) -> x.recalledWell(language)));
    }

    // ---- what the tests are made of

    private interface PairCall {
        Object on(TonguerootFamily x, int one, int other);
    }

    /** Three languages in a chain, all of them with the same 12 words. */
    private static TonguerootFamily twelveWords() {
        TonguerootFamily x = new TonguerootFamily();
        for (int meaning = 0; meaning < 12; meaning++) {
            put(x, meaning, 0, meaning);
        }
        x.language(0);
        x.language(1);
        return x;
    }

    private static void noSuchPair(PairCall call) {
        boundsOfPlace(0, 2, BesideEdgesTest::twelveWords, (x, one) -> call.on(x, one, 0));
        boundsOfPlace(0, 2, BesideEdgesTest::twelveWords, (x, other) -> call.on(x, 0, other));
        boundsOfPlace(0, 9, FamilyTools::fullest, (x, one) -> call.on(x, one, 9));
        boundsOfPlace(0, 9, FamilyTools::fullest, (x, other) -> call.on(x, 9, other));
        refusedPlaces(row(-1, 1), TonguerootFamily::new, (x, one) -> call.on(x, one, 0));
        refusedPlaces(row(-1, 1), TonguerootFamily::new, (x, other) -> call.on(x, 0, other));
        refusedPlace("neither", BesideEdgesTest::twelveWords, x -> call.on(x, -1, 3));
    }

    private static void noSuchMeaning(NumberedCall call) {
        boundsOfValue(0, 11, BesideEdgesTest::twelveWords, call);
        boundsOfValue(0, 11, FamilyTools::fullest, call);
    }

    private static void noSuchWord(PairCall call) {
        takenAll(row(0, 1), BesideEdgesTest::twelveWords, (x, language) -> call.on(x, language, 11));
        refusedPlaces(row(-1, 3, LOW, HIGH), BesideEdgesTest::twelveWords, (x, language) -> call.on(x, language, 11));
        boundsOfPlace(0, 11, BesideEdgesTest::twelveWords, (x, meaning) -> call.on(x, 1, meaning));
        refusedPlaces(row(-1, 10), FamilyTools::fullest, (x, language) -> call.on(x, language, 11));
        refusedPlaces(row(-1, 12), FamilyTools::fullest, (x, meaning) -> call.on(x, 0, meaning));
        refusedPlaces(row(-1, 1), TonguerootFamily::new, (x, language) -> call.on(x, language, 0));
        refusedPlace("neither", BesideEdgesTest::twelveWords, x -> call.on(x, 3, 12));
    }

    /** One word that stays in the mother, and what the laws make of it in language 1. */
    private static TonguerootFamily oneWord(int... sounds) {
        TonguerootFamily x = new TonguerootFamily();
        put(x, 0, sounds);
        x.language(0);
        return x;
    }

    private static final int[] TEN_ZEROS = new int[10];

    /** Ten times the sound 0, and in language 1 what one law leaves of that or makes of it. */
    private static TonguerootFamily tenZeros(int becomes, int behind) {
        TonguerootFamily x = oneWord(TEN_ZEROS);
        x.setSound(1, 63);
        x.law(1, set(0), becomes, 0, behind);
        return x;
    }

    // ---- 20 to 22

    private static void leastCosts() {
        Check.due("of a word and itself", 0, () -> oneWord(TEN_ZEROS).cost(0, 0, 0));
        Check.due("of the same word", 0, () -> oneWord(TEN_ZEROS).cost(0, 1, 0));
        Check.due("the greatest one", 70, () -> tenZeros(1, 0).cost(0, 0, 1));
        Check.due("the greatest one, the other way round", 70, () -> tenZeros(1, 0).cost(0, 1, 0));
        Check.due("nine gaps", 36, () -> tenZeros(-1, set(0)).cost(0, 0, 1));
        Check.due("the smallest difference", 1, () -> tenZeros(2, EDGE).cost(0, 0, 1));
        TonguerootFamily x = tenZeros(-1, set(0));
        x.law(1, set(0), 1, 0, 0);
        Check.due("nine gaps and the dearest pair", 43, () -> x.cost(0, 0, 1));
        costFollowsEachChange();
    }

    private static void costFollowsEachChange() {
        TonguerootFamily x = oneWord(0);
        Check.due("nothing has changed", 0, () -> x.cost(0, 0, 1));
        x.law(1, set(0), 1, 0, 0);
        Check.due("a law", 1, () -> x.cost(0, 0, 1));
        x.setSound(1, 7);
        Check.due("features", 4, () -> x.cost(0, 0, 1));
        x.spell(2);
        x.spell(0);
        Check.due("sounds", 8, () -> x.cost(0, 0, 1));
        x.loan(0, 0, 1, 1);
        Check.due("a loan", 0, () -> x.cost(0, 0, 1));
        x.law(1, set(2), -1, 0, 0);
        Check.due("a law behind it", 4, () -> x.cost(0, 0, 1));
        x.unlaw(1);
        Check.due("the law is gone", 0, () -> x.cost(0, 0, 1));
        x.word(0);
        Check.due("no word", -1, () -> x.cost(0, 0, 1));
        x.spell(5);
        x.language(1);
        x.law(2, set(5), 6, 0, 0);
        Check.due("a new language", 1, () -> x.cost(0, 0, 2));
    }

    private static void costWithoutWord() {
        TonguerootFamily fresh = new TonguerootFamily();
        for (int meaning = 0; meaning < 12; meaning++) {
            int each = meaning;
            Check.due("of a new object: " + meaning, -1, () -> fresh.cost(each, 0, 0));
        }
        TonguerootFamily x = oneWord();
        Check.due("both have none", -1, () -> x.cost(0, 0, 1));
        Check.due("a language and itself", -1, () -> x.cost(0, 1, 1));
        Check.due("another meaning", -1, () -> x.cost(11, 0, 1));
        x.spell(0);
        Check.due("both have one", 0, () -> x.cost(0, 0, 1));
        Check.due("another one still none", -1, () -> x.cost(11, 0, 1));
    }

    private static void columnCounts() {
        Check.due("one sound each", 1, () -> oneWord(5).columns(0, 0, 1));
        Check.due("ten pairs", 10, () -> tenZeros(1, 0).columns(0, 0, 1));
        Check.due("nine gaps", 10, () -> tenZeros(-1, set(0)).columns(0, 0, 1));
        Check.due("nine gaps in the first", 10, () -> tenZeros(-1, set(0)).columns(0, 1, 0));
        Check.due("a language and itself", 10, () -> tenZeros(1, 0).columns(0, 1, 1));
        TonguerootFamily x = oneWord(0, 0, 0, 0, 0, 1, 1, 1, 1, 1);
        x.setSound(1, 63);
        x.law(1, set(0), 2, 0, 0);
        x.law(1, set(1), 0, 0, 0);
        x.law(1, set(2), 1, 0, 0);
        Check.due("ten gaps and five pairs", 15, () -> x.columns(0, 0, 1));
        Check.due("the other way round", 15, () -> x.columns(0, 1, 0));
    }

    private static void columnsWithoutWord() {
        TonguerootFamily x = oneWord();
        Check.due("both have none", 0, () -> x.columns(0, 0, 1));
        Check.due("a language and itself", 0, () -> x.columns(0, 0, 0));
        x.spell(0);
        Check.due("both have one", 1, () -> x.columns(0, 0, 1));
        x.word(0);
        Check.due("none again", 0, () -> x.columns(0, 0, 1));
    }

    private static void columnSums() {
        TonguerootFamily x = oneWord(0, 15, 7);
        Check.due("the same sounds", "0 255 119", () -> table(x, 0, 0, 1));
        x.law(1, set(0), 14, 0, 0);
        x.law(1, set(15), 0, 0, 0);
        x.law(1, set(14), 15, 0, 0);
        Check.due("0 beside 15, 15 beside 0", "15 240 119", () -> table(x, 0, 0, 1));
        Check.due("the other way round", "240 15 119", () -> table(x, 0, 1, 0));
        Check.due("the tenth column", 1, () -> tenZeros(1, 0).columnAt(0, 0, 1, 9));
    }

    private static void gapsInColumns() {
        TonguerootFamily x = oneWord(0, 15, 7);
        x.law(1, set(0, 15), -1, 0, 0);
        Check.due("in the second one", "16 256 119", () -> table(x, 0, 0, 1));
        Check.due("in the first one", "256 271 119", () -> table(x, 0, 1, 0));
        Check.due("in the last column", 16, () -> tenZeros(-1, set(0)).columnAt(0, 0, 1, 9));
        Check.due("in the last column of the first one", 256, () -> tenZeros(-1, set(0)).columnAt(0, 1, 0, 9));
    }

    private static void noSuchColumn() {
        for (int length = 1; length <= 10; length++) {
            int each = length;
            boundsOfValue(0, length - 1, () -> oneWord(new int[each]), (x, column) -> x.columnAt(0, 0, 1, column));
        }
        boundsOfValue(0, 9, () -> tenZeros(-1, set(0)), (x, column) -> x.columnAt(0, 1, 0, column));
        for (int column : row(-1, 0, 1)) {
            refusedValue("without words: " + column, () -> oneWord(), x -> x.columnAt(0, 0, 1, column));
            refusedValue("of another meaning: " + column, () -> oneWord(5), x -> x.columnAt(1, 0, 1, column));
        }
    }

    // ---- 23 and 24

    private static void answerCounts() {
        TonguerootFamily x = oneWord();
        Check.due("no words", 0, () -> x.answers(0, 1, 0, 0));
        for (int meaning = 0; meaning < 12; meaning++) {
            put(x, meaning, TEN_ZEROS);
            int want = 10 * meaning + 10;
            Check.due("all columns of all words", want, () -> x.answers(0, 1, 0, 0));
        }
        x.law(1, set(0), 15, 0, EDGE);
        Check.due("but the last one of each", 108, () -> x.answers(0, 1, 0, 0));
        Check.due("the last one of each", 12, () -> x.answers(0, 1, 0, 15));
        Check.due("the other way round", 12, () -> x.answers(1, 0, 15, 0));
        x.law(1, set(0), -1, 0, 0);
        Check.due("nine gaps in each", 108, () -> x.answers(0, 1, 0, -1));
        Check.due("gaps in the first one", 108, () -> x.answers(1, 0, -1, 0));
        Check.due("a gap and a gap", 0, () -> x.answers(0, 1, -1, -1));
        x.loan(5, 0, 1, 8);
        Check.due("but not what is lent", 99, () -> x.answers(0, 1, 0, -1));
    }

    private static void noSuchAnswer() {
        boundsOfValue(-1, 15, BesideEdgesTest::twelveWords, (x, sound) -> x.answers(0, 1, sound, 0));
        boundsOfValue(-1, 15, BesideEdgesTest::twelveWords, (x, answer) -> x.answers(0, 1, 0, answer));
        boundsOfValue(-1, 15, FamilyTools::fullest, (x, sound) -> x.answers(9, 0, sound, -1));
        boundsOfValue(-1, 15, FamilyTools::fullest, (x, answer) -> x.answers(9, 0, -1, answer));
    }

    private static void mostOften() {
        TonguerootFamily x = oneWord(5, 5, 5);
        Check.due("itself", 5, () -> x.mainAnswer(0, 1, 5));
        x.law(1, set(5), 15, EDGE, 0);
        Check.due("two to one", 5, () -> x.mainAnswer(0, 1, 5));
        x.law(1, set(5), 15, 0, EDGE);
        Check.due("one to two", 15, () -> x.mainAnswer(0, 1, 5));
        Check.due("the other way round", 5, () -> x.mainAnswer(1, 0, 15));
        put(x, 11, 5, 5, 5, 5);
        Check.due("three to four", 15, () -> x.mainAnswer(0, 1, 5));
        put(x, 4, 5, 5, 5, 5, 5);
        Check.due("six to six", 5, () -> x.mainAnswer(0, 1, 5));
        x.loan(4, 0, 1, 0);
        Check.due("but what is lent does not count", 15, () -> x.mainAnswer(0, 1, 5));
        for (int sound = 0; sound < 16; sound++) {
            int each = sound;
            Check.due("sound " + sound, each, () -> oneWord(each).mainAnswer(0, 1, each));
        }
    }

    private static void gapMostOften() {
        TonguerootFamily x = tenZeros(-1, set(0));
        Check.due("nine gaps", -1, () -> x.mainAnswer(0, 1, 0));
        TonguerootFamily y = oneWord(7, 0);
        y.law(1, set(0), -1, 0, 0);
        Check.due("a gap alone", -1, () -> y.mainAnswer(0, 1, 0));
        Check.due("not for the other one", 7, () -> y.mainAnswer(0, 1, 7));
    }

    private static void soundAheadOfGap() {
        TonguerootFamily x = oneWord(7, 15);
        put(x, 1, 15, 7);
        x.law(1, set(15), -1, EDGE, 0);
        Check.due("15 once, a gap once", 15, () -> x.mainAnswer(0, 1, 15));
        put(x, 2, 15, 7);
        Check.due("15 once, a gap twice", -1, () -> x.mainAnswer(0, 1, 15));
    }

    private static void smallestFirst() {
        TonguerootFamily x = oneWord(8, 8);
        x.law(1, set(8), 15, EDGE, 0);
        Check.due("15 and 8", 8, () -> x.mainAnswer(0, 1, 8));
        x.law(1, set(8), 14, 0, 0);
        Check.due("15 and 14", 14, () -> x.mainAnswer(0, 1, 8));
        x.law(1, set(15), 0, 0, 0);
        Check.due("0 and 14", 0, () -> x.mainAnswer(0, 1, 8));
    }

    private static void nothingAnswers() {
        TonguerootFamily x = oneWord(5);
        for (int sound = 0; sound < 16; sound++) {
            int each = sound;
            int want = sound == 5 ? 5 : -2;
            Check.due("sound " + sound, want, () -> x.mainAnswer(0, 1, each));
        }
        x.loan(0, 0, 1, 0);
        Check.due("no kin words", -2, () -> x.mainAnswer(0, 1, 5));
        Check.due("no words at all", -2, () -> new TonguerootFamily().mainAnswer(0, 0, 0));
        TonguerootFamily y = oneWord(5, 6);
        y.law(1, set(5), -1, 0, 0);
        Check.due("a gap answers nothing that is not there", -2, () -> y.mainAnswer(1, 0, 5));
    }

    private static void noSuchSound() {
        boundsOfValue(0, 15, BesideEdgesTest::twelveWords, (x, sound) -> x.mainAnswer(0, 1, sound));
        boundsOfValue(0, 15, FamilyTools::fullest, (x, sound) -> x.mainAnswer(9, 8, sound));
    }

    // ---- 25 and 26

    private static void fars() {
        Check.due("the same words", 0.0, () -> twelveWords().far(0, 2));
        Check.due("the greatest one", 70.0, () -> tenZeros(1, 0).far(0, 1));
        Check.due("a language and itself", 0.0, () -> tenZeros(1, 0).far(1, 1));
        TonguerootFamily x = twelveWords();
        x.law(1, set(11), 12, 0, 0);
        Check.due("one of twelve", 1.0 / 12, () -> x.far(0, 1));
        Check.due("the other way round", 1.0 / 12, () -> x.far(1, 0));
        for (int meaning = 0; meaning < 9; meaning++) {
            x.word(meaning);
        }
        Check.due("one of three", 1.0 / 3, () -> x.far(0, 1));
        x.loan(11, 0, 1, 0);
        x.loan(10, 0, 1, 0);
        Check.due("not kin", 1.0 / 3, () -> x.far(0, 1));
        x.word(9);
        x.word(10);
        Check.due("one of one", 1.0, () -> x.far(0, 1));
    }

    private static void farWithoutWords() {
        TonguerootFamily x = oneWord();
        Check.due("an open word without sounds", 0.0, () -> x.far(0, 1));
        Check.due("a language and itself", 0.0, () -> x.far(1, 1));
        Check.due("a new object", 0.0, () -> new TonguerootFamily().far(0, 0));
    }

    private static void leastFar() {
        TonguerootFamily x = new TonguerootFamily();
        put(x, 0, 0);
        for (int language = 1; language < 10; language++) {
            x.language(0);
            x.law(language, set(0), language, 0, 0);
            x.setSound(language, (1 << language % 6) - 1);
        }
        x.setSound(8, 32);
        x.setSound(9, 36);
        Check.due("of the last one", 8, () -> x.nearest(9));
        Check.due("of the one ahead of it", 0, () -> x.nearest(8));
        x.setSound(0, 36);
        Check.due("the mother is the nearest", 0, () -> x.nearest(9));
        Check.due("the last one is the nearest", 9, () -> x.nearest(0));
        x.unlaw(9);
        Check.due("nearer than any", 9, () -> x.nearest(0));
        TonguerootFamily y = thirds();
        Check.due("it is not cut", 2, () -> y.nearest(0));
    }

    /** From the mother 1 is two thirds far, and 2 one third. */
    private static TonguerootFamily thirds() {
        TonguerootFamily x = oneWord(1);
        put(x, 1, 2);
        put(x, 2, 3);
        x.language(0);
        x.law(1, set(1, 2), 4, 0, 0);
        x.law(2, set(1), 4, 0, 0);
        return x;
    }

    private static void nearestWithoutWords() {
        TonguerootFamily x = oneWord();
        Check.due("no meaning", -1, () -> x.nearest(0));
        Check.due("no meaning of the daughter", -1, () -> x.nearest(1));
        x.spell(0);
        Check.due("one meaning", 1, () -> x.nearest(0));
        Check.due("one meaning of the daughter", 0, () -> x.nearest(1));
        x.word(0);
        Check.due("none again", -1, () -> x.nearest(0));
    }

    private static void nearestOfSeveral() {
        TonguerootFamily x = new TonguerootFamily();
        put(x, 0, 1);
        for (int language = 1; language < 10; language++) {
            x.language(0);
        }
        Check.due("all are the same, of the mother", 1, () -> x.nearest(0));
        Check.due("all are the same, of 1", 0, () -> x.nearest(1));
        Check.due("all are the same, of the last one", 0, () -> x.nearest(9));
        x.law(9, set(1), 2, 0, 0);
        Check.due("all are as far", 0, () -> x.nearest(9));
        x.law(7, set(1), 2, 0, 0);
        x.law(8, set(1), 2, 0, 0);
        Check.due("two are nearer", 7, () -> x.nearest(9));
    }

    private static void nearestWithoutOther() {
        TonguerootFamily x = new TonguerootFamily();
        Check.due("without words", -1, () -> x.nearest(0));
        put(x, 0, 1);
        Check.due("never itself", -1, () -> x.nearest(0));
        x.language(0);
        Check.due("there is one", 1, () -> x.nearest(0));
    }

    // ---- 27 to 29

    private static void recalledLengths() {
        for (int length = 1; length <= 10; length++) {
            TonguerootFamily x = oneWord(new int[length]);
            Check.due("so many", length, () -> x.recalled(0, 0));
            for (int language = 2; language < 10; language++) {
                x.language(0);
            }
            Check.due("of nine daughters", length, () -> x.recalled(0, 0));
        }
        Check.due("of what is left", 1, () -> tenZeros(-1, set(0)).recalled(0, 0));
        TonguerootFamily y = tenZeros(-1, set(0));
        y.language(0);
        y.language(0);
        Check.due("the first one is shorter", 1, () -> y.recalled(0, 0));
        TonguerootFamily z = oneWord(TEN_ZEROS);
        z.language(0);
        z.language(0);
        z.law(2, set(0), -1, 0, set(0));
        Check.due("one of the others is shorter", 10, () -> z.recalled(0, 0));
        z.law(3, set(0), -1, 0, set(0));
        Check.due("both of the others are shorter", 1, () -> z.recalled(0, 0));
    }

    private static void nothingRecalled() {
        Check.due("a new object", 0, () -> new TonguerootFamily().recalled(0, 0));
        TonguerootFamily x = oneWord();
        Check.due("no word", 0, () -> x.recalled(0, 0));
        x.spell(1);
        Check.due("a daughter", 1, () -> x.recalled(0, 0));
        Check.due("no daughter", 0, () -> x.recalled(1, 0));
        Check.due("no word for another meaning", 0, () -> x.recalled(0, 11));
        x.loan(0, 0, 1, 8);
        Check.due("no kin daughter", 0, () -> x.recalled(0, 0));
    }

    private static void recalledSounds() {
        int[] word = row(0, 15, 1, 14, 2, 13, 3, 12, 4, 11);
        TonguerootFamily x = oneWord(word);
        x.language(0);
        x.law(2, set(13), 0, 0, 0);
        for (int place = 0; place < 10; place++) {
            int each = place;
            int want = word[place] == 13 ? 0 : word[place];
            Check.due("at " + place, want, () -> x.recalledAt(0, 0, each));
        }
        x.law(1, set(15), -1, 0, 0);
        x.law(2, set(15), -1, 0, 0);
        Check.due("behind what was left out", 1, () -> x.recalledAt(0, 0, 1));
        Check.due("the last one", 11, () -> x.recalledAt(0, 0, 8));
    }

    private static void noSuchRecalledPlace() {
        for (int length = 1; length <= 10; length++) {
            int each = length;
            boundsOfPlace(0, length - 1, () -> oneWord(new int[each]), (x, place) -> x.recalledAt(0, 0, place));
        }
        boundsOfPlace(0, 0, () -> tenZeros(-1, set(0)), (x, place) -> x.recalledAt(0, 0, place));
        refusedPlaces(row(-1, 0, LOW, HIGH), () -> oneWord(), (x, place) -> x.recalledAt(0, 0, place));
        refusedPlaces(row(-1, 0, LOW, HIGH), () -> oneWord(1), (x, place) -> x.recalledAt(1, 0, place));
        TonguerootFamily x = oneWord(1, 2);
        x.language(0);
        x.language(0);
        x.law(2, set(2), -1, 0, 0);
        Check.due("the gap has one vote", 2, () -> x.recalledAt(0, 0, 1));
        x.law(3, set(2), -1, 0, 0);
        Check.noPlace("the gap has two votes", () -> x.recalledAt(0, 0, 1));
    }

    private static void recalledWellCounts() {
        TonguerootFamily x = oneWord();
        Check.due("none", 0, () -> x.recalledWell(0));
        for (int meaning = 0; meaning < 12; meaning++) {
            put(x, meaning, meaning, 15, 15);
            int want = meaning + 1;
            Check.due("all of them", want, () -> x.recalledWell(0));
        }
        Check.due("none without daughters", 0, () -> x.recalledWell(1));
        x.law(1, set(11), 12, 0, 0);
        Check.due("all but one", 11, () -> x.recalledWell(0));
        x.language(0);
        Check.due("the smaller sound is the right one", 12, () -> x.recalledWell(0));
        x.loan(0, 0, 2, 0);
        Check.due("the other one is right alone", 12, () -> x.recalledWell(0));
        x.loan(0, 0, 1, 0);
        Check.due("neither is kin", 11, () -> x.recalledWell(0));
        x.law(1, set(15), -1, 0, EDGE);
        x.law(2, set(15), -1, 0, EDGE);
        Check.due("each one is shorter", 0, () -> x.recalledWell(0));
    }
}
