/** The sentences of the promises 13 to 19 (the words of a language), each one with a test of its own. */
public final class WordsEdgesTest extends FamilyTools {
    public static void main(String[] args) {
        wordByWord();
        allWords();
        for (int promise = 13; promise <= 19; promise++) {
            Sentences.complete("Promise " + promise);
        }
        Check.end();
    }

    private static void say(int promise, String words, Runnable test) {
        Sentences.of("Promise " + promise, words, test);
    }

    private static void wordByWord() {
        say(13, "Returns of how many SOUNDS its WORD is", WordsEdgesTest::lengths);
        say(13, "0 without one", WordsEdgesTest::lengthWithoutWord);
        say(13, "if there is no such LANGUAGE, or MEANING", () -> noSuchWord((x, l, m) -> x.length(l, m)));
        say(14, "Returns the SOUND there.", WordsEdgesTest::soundsThere);
        say(14, "if there is no such LANGUAGE, or MEANING", () -> noSuchWord((x, l, m) -> x.soundAt(l, m, 0)));
        say(14, "or no such place", WordsEdgesTest::noSuchPlace);
        say(15, "Returns the ORIGIN of its WORD", WordsEdgesTest::origins);
        say(15, "-1 without one, too", WordsEdgesTest::originWithoutWord);
        say(15, "if there is no such LANGUAGE, or MEANING", () -> noSuchWord((x, l, m) -> x.origin(l, m)));
        say(16, "Returns the set of its LAWS (the sum of 1 << l)", WordsEdgesTest::setsOfLaws);
        say(16, "that made the WORD another one", WordsEdgesTest::lawsThatMadeAnother);
        say(16, "that of the LOAN that came last from then on, only", WordsEdgesTest::lawsFromTheLoanOn);
        say(16, "if there is no such LANGUAGE, or MEANING", () -> noSuchWord((x, l, m) -> x.changedBy(l, m)));
    }

    private static void allWords() {
        say(17, "Returns for how many MEANINGS it has WORDS.", WordsEdgesTest::noneToTwelveWords);
        say(17, "if there is no such LANGUAGE", () -> boundsOfLanguage((x, language) -> x.wealth(language)));
        say(18, "Returns how many pairs of MEANINGS there are", WordsEdgesTest::noneToAllPairs);
        say(18, "for which it has the same WORD, SOUND by SOUND", WordsEdgesTest::soundBySound);
        say(18, "if there is no such LANGUAGE", () -> boundsOfLanguage((x, language) -> x.alike(language)));
        say(19, "Returns the set of SOUNDS that are in its WORDS.", WordsEdgesTest::setsOfSounds);
        say(19, "if there is no such LANGUAGE", () -> boundsOfLanguage((x, language) -> x.soundsOf(language)));
    }

    // ---- what the tests are made of

    private interface WordCall {
        Object on(TonguerootFamily x, int language, int meaning);
    }

    private static void noSuchWord(WordCall call) {
        boundsOfPlace(0, 2, WordsEdgesTest::threeFull, (x, language) -> call.on(x, language, 0));
        boundsOfPlace(0, 11, WordsEdgesTest::threeFull, (x, meaning) -> call.on(x, 2, meaning));
        boundsOfPlace(0, 9, FamilyTools::fullest, (x, language) -> call.on(x, language, 11));
        boundsOfPlace(0, 11, FamilyTools::fullest, (x, meaning) -> call.on(x, 9, meaning));
        refusedPlace("neither", FamilyTools::three, x -> call.on(x, 3, 12));
        refusedPlaces(row(-1, 1), TonguerootFamily::new, (x, language) -> call.on(x, language, 0));
    }

    private static TonguerootFamily threeFull() {
        TonguerootFamily x = three();
        for (int meaning = 0; meaning < 12; meaning++) {
            put(x, meaning, meaning, 1);
        }
        return x;
    }

    private static TonguerootFamily oneWord(int... sounds) {
        TonguerootFamily x = new TonguerootFamily();
        put(x, 0, sounds);
        x.language(0);
        return x;
    }

    // ---- 13 and 14

    private static void lengths() {
        int[] sounds = row(1, 2, 3, 4, 5, 6, 7, 8, 9, 10);
        TonguerootFamily x = oneWord();
        for (int count = 1; count <= 10; count++) {
            x.spell(sounds[count - 1]);
            Check.due("the mother's", count, () -> x.length(0, 0));
            Check.due("the daughter's", count, () -> x.length(1, 0));
        }
        for (int law = 0; law < 8; law++) {
            x.law(1, set(sounds[law]), -1, 0, 0);
            Check.due("without one more", 9 - law, () -> x.length(1, 0));
        }
        x.unlaw(1);
        x.law(1, set(8, 9), -1, 0, 0);
        Check.due("one is left", 1, () -> x.length(1, 0));
        x.unlaw(1);
        x.law(1, set(8, 9, 10), -1, 0, 0);
        Check.due("none would be left", 3, () -> x.length(1, 0));
        Check.due("the mother's stays", 10, () -> x.length(0, 0));
    }

    private static void lengthWithoutWord() {
        TonguerootFamily x = new TonguerootFamily();
        Check.due("a new object", 0, () -> x.length(0, 11));
        x.language(0);
        x.law(1, ANY, 5, 0, 0);
        x.loan(11, 0, 1, 1);
        Check.due("laws and loans make none", 0, () -> x.length(1, 11));
        x.word(11);
        Check.due("an open one without sounds", 0, () -> x.length(1, 11));
    }

    private static void soundsThere() {
        TonguerootFamily x = oneWord(0, 15, 1, 14, 2, 13, 3, 12, 4, 11);
        for (int place = 0; place < 10; place++) {
            int each = place;
            int want = place % 2 == 0 ? place / 2 : 15 - place / 2;
            Check.due("the mother's " + place, want, () -> x.soundAt(0, 0, each));
            Check.due("the daughter's " + place, want, () -> x.soundAt(1, 0, each));
        }
        x.law(1, set(15), -1, 0, 0);
        Check.due("behind what was left out", 1, () -> x.soundAt(1, 0, 1));
        Check.due("the last one", 11, () -> x.soundAt(1, 0, 8));
    }

    private static void noSuchPlace() {
        for (int length = 1; length <= 10; length++) {
            int each = length;
            boundsOfPlace(0, length - 1, () -> oneWord(new int[each]), (x, place) -> x.soundAt(0, 0, place));
            boundsOfPlace(0, length - 1, () -> oneWord(new int[each]), (x, place) -> x.soundAt(1, 0, place));
        }
        refusedPlaces(row(-1, 0, LOW, HIGH), () -> oneWord(), (x, place) -> x.soundAt(1, 0, place));
        refusedPlaces(row(-1, 0, LOW, HIGH), FamilyTools::three, (x, place) -> x.soundAt(0, 5, place));
        TonguerootFamily x = oneWord(1, 2);
        x.law(1, set(1), -1, 0, 0);
        Check.noPlace("it was left out", () -> x.soundAt(1, 0, 1));
        Check.due("not in the mother's", 2, () -> x.soundAt(0, 0, 1));
    }

    // ---- 15 and 16

    private static void origins() {
        TonguerootFamily x = oneWord(1);
        for (int loan = 0; loan < 12; loan++) {
            int each = loan;
            x.loan(0, 0, 1, 8);
            Check.due("loan " + loan, each, () -> x.origin(1, 0));
        }
        Check.due("never the mother's", -1, () -> x.origin(0, 0));
        x.language(1);
        Check.due("a daughter's", 11, () -> x.origin(2, 0));
        TonguerootFamily y = oneWord(1);
        Check.due("without loans", -1, () -> y.origin(1, 0));
    }

    private static void originWithoutWord() {
        TonguerootFamily x = oneWord();
        Check.due("no loan", -1, () -> x.origin(1, 0));
        x.loan(0, 0, 1, 0);
        Check.due("a loan of nothing", -1, () -> x.origin(1, 0));
        x.spell(1);
        Check.due("a loan of something", 0, () -> x.origin(1, 0));
        x.word(0);
        Check.due("and of nothing again", -1, () -> x.origin(1, 0));
    }

    /** Each of the laws of language 1 makes of its sound (that of its number) the next one. */
    private static TonguerootFamily eightLaws(int... sounds) {
        TonguerootFamily x = oneWord(sounds);
        for (int law = 0; law < 8; law++) {
            x.law(1, set(law), 15, 0, 0);
        }
        return x;
    }

    private static void setsOfLaws() {
        for (int law = 0; law < 8; law++) {
            int each = law;
            Check.due("law " + law, 1 << law, () -> eightLaws(each).changedBy(1, 0));
        }
        Check.due("none", 0, () -> eightLaws(8, 9, 15).changedBy(1, 0));
        Check.due("all of them", 255, () -> eightLaws(7, 6, 5, 4, 3, 2, 1, 0).changedBy(1, 0));
        Check.due("the first and the last", 129, () -> eightLaws(0, 9, 7).changedBy(1, 0));
        Check.due("the mother's", 0, () -> eightLaws(0).changedBy(0, 0));
        TonguerootFamily x = eightLaws(0);
        x.language(1);
        Check.due("not those of its parent", 0, () -> x.changedBy(2, 0));
        Check.due("without a word", 0, () -> x.changedBy(1, 11));
        setOfLawsFollowsEachChange();
    }

    private static void setOfLawsFollowsEachChange() {
        TonguerootFamily x = eightLaws(0, 7);
        Check.due("the first and the last", 129, () -> x.changedBy(1, 0));
        x.unlaw(1);
        Check.due("the last one is gone", 1, () -> x.changedBy(1, 0));
        x.law(1, set(8), 9, 0, 0);
        Check.due("it is another one", 1, () -> x.changedBy(1, 0));
        x.spell(8);
        Check.due("it holds for one sound more", 129, () -> x.changedBy(1, 0));
        x.word(0);
        Check.due("no word", 0, () -> x.changedBy(1, 0));
        x.spell(3);
        Check.due("another word", 8, () -> x.changedBy(1, 0));
        x.loan(0, 0, 1, 4);
        Check.due("a loan", 0, () -> x.changedBy(1, 0));
    }

    private static void lawsThatMadeAnother() {
        TonguerootFamily x = oneWord(1, 2);
        x.law(1, set(1), 1, 0, 0);
        x.law(1, set(3), 4, 0, 0);
        x.law(1, set(1), 16, 0, 0);
        x.law(1, set(1, 2), -1, 0, 0);
        Check.due("to itself, for none, without such a sound, to nothing", 0, () -> x.changedBy(1, 0));
        x.law(1, set(1), 3, 0, 0);
        x.law(1, set(3), 1, 0, 0);
        Check.due("there and back", 48, () -> x.changedBy(1, 0));
        Check.due("the same word", "1 2", () -> spelt(x, 1, 0));
        x.law(1, set(2), -1, 0, 0);
        Check.due("it is shorter", 112, () -> x.changedBy(1, 0));
        TonguerootFamily y = oneWord(1, 1);
        y.law(1, set(1), -1, EDGE, 0);
        Check.due("shorter, of the same sounds", 1, () -> y.changedBy(1, 0));
    }

    private static void lawsFromTheLoanOn() {
        for (int moment = 0; moment <= 8; moment++) {
            TonguerootFamily x = eightLaws(0, 1, 2, 3, 4, 5, 6, 7);
            x.loan(0, 0, 1, moment);
            int want = 255 >> moment << moment;
            Check.due("at moment " + moment, want, () -> x.changedBy(1, 0));
        }
        TonguerootFamily x = eightLaws(0, 1, 2, 3, 4, 5, 6, 7);
        x.loan(0, 0, 1, 6);
        x.loan(0, 0, 1, 2);
        Check.due("the one that came last", 192, () -> x.changedBy(1, 0));
        TonguerootFamily y = eightLaws(0, 1);
        y.language(1);
        y.law(2, set(15), 0, 0, 0);
        y.loan(0, 0, 1, 8);
        Check.due("one to its parent cuts nothing of its own", 0, () -> y.changedBy(2, 0));
        y.law(2, set(0), 3, 0, 0);
        Check.due("of its own", 2, () -> y.changedBy(2, 0));
        y.loan(11, 0, 2, 2);
        Check.due("one of another meaning cuts nothing", 2, () -> y.changedBy(2, 0));
    }

    // ---- 17 to 19

    private static void noneToTwelveWords() {
        TonguerootFamily x = oneWord();
        Check.due("none", 0, () -> x.wealth(1));
        for (int meaning = 0; meaning < 12; meaning++) {
            int each = meaning;
            put(x, meaning, 0);
            Check.due("of the mother", each + 1, () -> x.wealth(0));
            Check.due("of the daughter", each + 1, () -> x.wealth(1));
        }
        x.law(1, set(0), -1, 0, 0);
        Check.due("none is lost by laws", 12, () -> x.wealth(1));
        x.word(0);
        Check.due("one is empty", 11, () -> x.wealth(1));
        Check.due("of a full one", 12, () -> fullest().wealth(9));
    }

    private static void noneToAllPairs() {
        TonguerootFamily x = oneWord();
        Check.due("no words", 0, () -> x.alike(0));
        for (int meaning = 0; meaning < 12; meaning++) {
            put(x, meaning, 0);
            int want = meaning * (meaning + 1) / 2;
            Check.due("of the mother", want, () -> x.alike(0));
            Check.due("of the daughter", want, () -> x.alike(1));
        }
        x.word(11);
        Check.due("one empty word", 55, () -> x.alike(0));
        x.word(0);
        Check.due("two empty words are no pair", 45, () -> x.alike(1));
    }

    private static void soundBySound() {
        TonguerootFamily x = new TonguerootFamily();
        put(x, 0, 0, 1, 2, 3, 4, 5, 6, 7, 8, 9);
        put(x, 11, 0, 1, 2, 3, 4, 5, 6, 7, 8, 9);
        put(x, 1, 0, 1, 2, 3, 4, 5, 6, 7, 8, 10);
        put(x, 2, 15, 1, 2, 3, 4, 5, 6, 7, 8, 9);
        put(x, 3, 9, 8, 7, 6, 5, 4, 3, 2, 1, 0);
        put(x, 4, 0, 1, 2, 3, 4, 5, 6, 7, 8);
        put(x, 5, 0);
        put(x, 6, 0, 0);
        Check.due("one pair", 1, () -> x.alike(0));
        x.language(0);
        x.law(1, set(9, 10), 9, 0, 0);
        Check.due("three of the daughter's", 3, () -> x.alike(1));
        x.law(1, set(15), 0, 0, 0);
        Check.due("four of the daughter's", 6, () -> x.alike(1));
        x.law(1, set(0), -1, EDGE, set(0));
        Check.due("and two short ones", 7, () -> x.alike(1));
        Check.due("the mother's stay", 1, () -> x.alike(0));
    }

    private static void setsOfSounds() {
        TonguerootFamily x = oneWord();
        Check.due("none", 0, () -> x.soundsOf(0));
        for (int sound = 0; sound < 16; sound++) {
            TonguerootFamily y = oneWord(sound);
            int want = 1 << sound;
            Check.due("one", want, () -> y.soundsOf(1));
        }
        put(x, 0, 0, 1, 2, 3, 4, 5, 6, 7, 8, 9);
        put(x, 11, 10, 11, 12, 13, 14, 15);
        Check.due("all of them", 65535, () -> x.soundsOf(0));
        Check.due("of the daughter, too", 65535, () -> x.soundsOf(1));
        x.law(1, set(0, 15), 5, 0, 0);
        Check.due("without the first and the last", 32766, () -> x.soundsOf(1));
        x.loan(11, 0, 1, 1);
        Check.due("the last one is lent", 65534, () -> x.soundsOf(1));
        x.word(0);
        Check.due("of one word", 64512, () -> x.soundsOf(0));
    }
}
