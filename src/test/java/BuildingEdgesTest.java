import java.util.function.IntUnaryOperator;

/** The sentences of the promises 1 to 12 (what is built, and how much of it), each one with a test of its own. */
public final class BuildingEdgesTest extends FamilyTools {
    public static void main(String[] args) {
        mother();
        laws();
        loansAndCounts();
        for (int promise = 1; promise <= 12; promise++) {
            Sentences.complete("Promise " + promise);
        }
        Check.end();
    }

    private static void say(int promise, String words, Runnable test) {
        Sentences.of("Promise " + promise, words, test);
    }

    private static void mother() {
        say(1, "Creates a family with the MOTHER alone, without WORDS.", BuildingEdgesTest::motherAlone);
        say(2, "Returns its FEATURES before.", BuildingEdgesTest::featuresBefore);
        say(2, "if sound is not 0 to 15", BuildingEdgesTest::setSoundOfNoSound);
        say(2, "or features is not 0 to 63", BuildingEdgesTest::setSoundToNoFeatures);
        say(3, "Gives the MOTHER an empty WORD for a MEANING", BuildingEdgesTest::emptyWord);
        say(3, "which is OPEN then", BuildingEdgesTest::openWord);
        say(3, "in the place of the one that was", BuildingEdgesTest::inThePlaceOfTheOld);
        say(3, "a WORD without SOUNDS is as none, in all that is asked", BuildingEdgesTest::emptyWordIsAsNone);
        say(3, "Returns of how many SOUNDS the WORD was that she had for it.", BuildingEdgesTest::lengthBefore);
        say(3, "if it is not 0 to 11", BuildingEdgesTest::wordOfNoMeaning);
        say(4, "Puts a SOUND behind the others of the WORD that is OPEN.", BuildingEdgesTest::behindTheOthers);
        say(4, "Returns how many it has then.", BuildingEdgesTest::lengthThen);
        say(4, "if sound is not 0 to 15", BuildingEdgesTest::spellNoSound);
        say(4, "if none is OPEN", BuildingEdgesTest::spellWithoutOpenWord);
        say(4, "or it has 10", BuildingEdgesTest::spellAnEleventh);
    }

    private static void laws() {
        say(5, "Adds a LANGUAGE without LAWS.", BuildingEdgesTest::languageWithoutLaws);
        say(5, "Returns its number.", BuildingEdgesTest::languageNumbers);
        say(5, "if there is no such LANGUAGE", BuildingEdgesTest::languageOfNoParent);
        say(5, "if there are 10", BuildingEdgesTest::languageInAFullRow);
        say(6, "Adds a LAW behind the others of a LANGUAGE.", BuildingEdgesTest::lawBehindTheOthers);
        say(6, "Returns how many LAWS the LANGUAGE has then.", BuildingEdgesTest::lawCounts);
        say(6, "if there is no such LANGUAGE", BuildingEdgesTest::lawOfNoLanguage);
        say(6, "if sounds is not 1 to 65535", BuildingEdgesTest::lawForNoSounds);
        say(6, "becomes is not -1 to 21", BuildingEdgesTest::lawToNoSound);
        say(6, "or ahead or behind is not 0 to 131071", BuildingEdgesTest::lawByNoNeighbours);
        say(6, "if it is the MOTHER", BuildingEdgesTest::lawOfTheMother);
        say(6, "or has 8", BuildingEdgesTest::lawInAFullRow);
        say(7, "Takes the last LAW of a LANGUAGE away.", BuildingEdgesTest::lastLawGoes);
        say(7, "Returns how many it has then.", BuildingEdgesTest::unlawCounts);
        say(7, "if there is no such LANGUAGE", BuildingEdgesTest::unlawOfNoLanguage);
        say(7, "if it has none", BuildingEdgesTest::unlawInAnEmptyRow);
    }

    private static void loansAndCounts() {
        say(8, "Adds a LOAN.", BuildingEdgesTest::loanComes);
        say(8, "Returns its number.", BuildingEdgesTest::loanNumbers);
        say(8, "if there is no such LANGUAGE", BuildingEdgesTest::loanOfNoLanguage);
        say(8, "if meaning is not 0 to 11", BuildingEdgesTest::loanOfNoMeaning);
        say(8, "to is not greater than from", BuildingEdgesTest::loanToNoGreaterOne);
        say(8, "or moment is not 0 to 8", BuildingEdgesTest::loanAtNoMoment);
        say(8, "if there are 12", BuildingEdgesTest::loanInAFullRow);
        say(9, "Returns how many LANGUAGES there are.", BuildingEdgesTest::howManyLanguages);
        say(10, "Returns how many LAWS it has.", BuildingEdgesTest::howManyLaws);
        say(10, "if there is no such LANGUAGE", BuildingEdgesTest::lawsOfNoLanguage);
        say(11, "Returns how many LOANS there are.", BuildingEdgesTest::howManyLoans);
        say(12, "the one with the greatest number that each of both is, or comes of", BuildingEdgesTest::greatestCommon);
        say(12, "if there is no such LANGUAGE", BuildingEdgesTest::commonOfNoLanguage);
    }

    // ---- what the tests are made of

    /** Each language's parent, in order, from language 1 on. */
    private static TonguerootFamily tree(int... parents) {
        TonguerootFamily x = new TonguerootFamily();
        for (int parent : parents) {
            x.language(parent);
        }
        return x;
    }

    private static TonguerootFamily chain(int count) {
        TonguerootFamily x = new TonguerootFamily();
        for (int language = 1; language < count; language++) {
            x.language(language - 1);
        }
        return x;
    }

    private static TonguerootFamily openWordOf(int length) {
        TonguerootFamily x = new TonguerootFamily();
        put(x, 3, new int[length]);
        return x;
    }

    private static TonguerootFamily lawsOf(int count) {
        TonguerootFamily x = chain(2);
        put(x, 0, 0, 1);
        for (int law = 0; law < count; law++) {
            x.law(1, set(law), law + 1, 0, 0);
        }
        return x;
    }

    private static TonguerootFamily loansOf(int count) {
        TonguerootFamily x = chain(3);
        put(x, 0, 0, 1);
        for (int loan = 0; loan < count; loan++) {
            x.loan(loan, 0, 1 + loan % 2, loan % 9);
        }
        return x;
    }

    private static void dueForMeanings(String what, int want, IntUnaryOperator call) {
        for (int meaning = 0; meaning < 12; meaning++) {
            int each = meaning;
            Check.due(what + " " + meaning, want, () -> call.applyAsInt(each));
        }
    }

    // ---- 1 and 2

    private static void motherAlone() {
        TonguerootFamily x = new TonguerootFamily();
        Check.due("languages", 1, () -> x.languages());
        Check.due("loans", 0, () -> x.loans());
        Check.due("laws", 0, () -> x.laws(0));
        Check.due("words", 0, () -> x.wealth(0));
        dueForMeanings("no sounds for", 0, meaning -> x.length(0, meaning));
        dueForMeanings("no origin for", -1, meaning -> x.origin(0, meaning));
        Check.noState("no open word", () -> x.spell(0));
        Check.noPlace("no second language", () -> x.wealth(1));
        Check.noPlace("no loan", () -> x.withoutLoan(0));
        Check.due("none else", -1, () -> x.nearest(0));
    }

    private static void featuresBefore() {
        TonguerootFamily x = new TonguerootFamily();
        for (int sound = 0; sound < 16; sound++) {
            int each = sound;
            Check.due("none at first: " + sound, 0, () -> x.setSound(each, 63 - each));
        }
        for (int sound = 0; sound < 16; sound++) {
            int each = sound;
            Check.due("as given: " + sound, 63 - sound, () -> x.setSound(each, 63));
        }
        Check.due("the greatest set", 63, () -> x.setSound(0, 0));
        Check.due("the smallest set", 0, () -> x.setSound(0, 1));
        Check.due("another one stays", 63, () -> x.setSound(1, 1));
    }

    private static void setSoundOfNoSound() {
        boundsOfValue(0, 15, FamilyTools::three, (x, sound) -> x.setSound(sound, 1));
        boundsOfValue(0, 15, FamilyTools::fullest, (x, sound) -> x.setSound(sound, 63));
    }

    private static void setSoundToNoFeatures() {
        for (int sound = 0; sound < 16; sound++) {
            int each = sound;
            boundsOfValue(0, 63, FamilyTools::three, (x, features) -> x.setSound(each, features));
        }
        refusedValue("neither is right", FamilyTools::fullest, x -> x.setSound(16, 64));
    }

    // ---- 3 and 4

    private static void emptyWord() {
        for (int meaning = 0; meaning < 12; meaning++) {
            int each = meaning;
            TonguerootFamily x = fullest();
            x.word(meaning);
            Check.due("the mother's " + meaning, 0, () -> x.length(0, each));
            Check.due("the last one's " + meaning, 0, () -> x.length(9, each));
            Check.due("all others stay", 11, () -> x.wealth(0));
        }
    }

    private static void openWord() {
        TonguerootFamily x = new TonguerootFamily();
        x.word(0);
        Check.due("the first one is open", 1, () -> x.spell(1));
        x.word(11);
        Check.due("the last one is open", 1, () -> x.spell(2));
        Check.due("and the first one no more", "1", () -> spelt(x, 0, 0));
        Check.due("it is spelt", "2", () -> spelt(x, 0, 11));
        x.word(0);
        Check.due("the first one anew", 1, () -> x.spell(3));
        Check.due("alone", "3", () -> spelt(x, 0, 0));
        x.language(0);
        x.loan(0, 0, 1, 0);
        x.setSound(3, 5);
        Check.due("it stays open", 2, () -> x.spell(4));
    }

    private static void inThePlaceOfTheOld() {
        TonguerootFamily x = openWordOf(10);
        Check.due("ten sounds", 10, () -> x.length(0, 3));
        x.word(3);
        Check.due("none", 0, () -> x.length(0, 3));
        Check.due("from the beginning", 1, () -> x.spell(7));
        Check.due("nothing of the old ones", "7", () -> spelt(x, 0, 3));
    }

    private static TonguerootFamily withEmptyWords(boolean opened) {
        TonguerootFamily x = chain(3);
        x.law(1, ANY, 5, 0, 0);
        x.law(1, ANY, -1, EDGE, 0);
        x.loan(0, 0, 2, 0);
        if (opened) {
            x.word(0);
            x.word(1);
        }
        return x;
    }

    private static void emptyWordIsAsNone() {
        TonguerootFamily x = withEmptyWords(true);
        Check.due("length", 0, () -> x.length(0, 0));
        Check.due("length behind laws", 0, () -> x.length(1, 1));
        Check.noPlace("soundAt", () -> x.soundAt(0, 0, 0));
        Check.due("origin", -1, () -> x.origin(2, 0));
        Check.due("changedBy", 0, () -> x.changedBy(1, 0));
        Check.due("wealth", 0, () -> x.wealth(1));
        Check.due("alike", 0, () -> x.alike(0));
        Check.due("soundsOf", 0, () -> x.soundsOf(1));
        Check.due("cost", -1, () -> x.cost(0, 0, 1));
        Check.due("cost of itself", -1, () -> x.cost(0, 0, 0));
        Check.due("columns", 0, () -> x.columns(0, 0, 0));
        Check.noValue("columnAt", () -> x.columnAt(0, 0, 0, 0));
        Check.due("answers", 0, () -> x.answers(0, 1, -1, -1));
        Check.due("mainAnswer", -2, () -> x.mainAnswer(0, 0, 0));
        Check.due("far", 0.0, () -> x.far(0, 1));
        Check.due("nearest", -1, () -> x.nearest(0));
        Check.due("recalled", 0, () -> x.recalled(0, 0));
        Check.noPlace("recalledAt", () -> x.recalledAt(0, 0, 0));
        Check.due("recalledWell", 0, () -> x.recalledWell(0));
        Check.due("swapped", 0, () -> x.swapped(1, 0));
        Check.due("without", 0, () -> x.without(1, 0));
        Check.due("withoutLoan", 0, () -> x.withoutLoan(0));
        Check.due("looksLent", false, () -> x.looksLent(2, 0));
        Check.due("digest", withEmptyWords(false).digest(), () -> x.digest());
    }

    private static void lengthBefore() {
        TonguerootFamily x = new TonguerootFamily();
        Check.due("none", 0, () -> x.word(4));
        Check.due("an empty one", 0, () -> x.word(4));
        for (int length = 1; length <= 10; length++) {
            TonguerootFamily y = openWordOf(length);
            Check.due("another meaning", 0, () -> y.word(4));
            Check.due("so many", length, () -> y.word(3));
            Check.due("and then none", 0, () -> y.word(3));
        }
    }

    private static void wordOfNoMeaning() {
        boundsOfValue(0, 11, TonguerootFamily::new, (x, meaning) -> x.word(meaning));
        boundsOfValue(0, 11, FamilyTools::three, (x, meaning) -> x.word(meaning));
        boundsOfValue(0, 11, FamilyTools::fullest, (x, meaning) -> x.word(meaning));
    }

    private static void behindTheOthers() {
        TonguerootFamily x = new TonguerootFamily();
        x.word(11);
        for (int sound : row(15, 0, 0, 7, 15, 1, 2, 14, 0, 8)) {
            x.spell(sound);
        }
        Check.due("ten sounds", "15 0 0 7 15 1 2 14 0 8", () -> spelt(x, 0, 11));
        TonguerootFamily y = three();
        y.spell(0);
        Check.due("of the open one", "3 0", () -> spelt(y, 0, 11));
        Check.due("of no other one", "1 2", () -> spelt(y, 0, 0));
        Check.due("the daughters follow", "3 0", () -> spelt(y, 2, 11));
    }

    private static void lengthThen() {
        TonguerootFamily x = openWordOf(0);
        for (int count = 1; count <= 10; count++) {
            Check.due("so many", count, () -> x.spell(0));
        }
        x.word(0);
        Check.due("of another one", 1, () -> x.spell(0));
    }

    private static void spellNoSound() {
        boundsOfValue(0, 15, () -> openWordOf(0), (x, sound) -> x.spell(sound));
        boundsOfValue(0, 15, () -> openWordOf(9), (x, sound) -> x.spell(sound));
    }

    private static void spellWithoutOpenWord() {
        refusedState("a new object", TonguerootFamily::new, x -> x.spell(0));
        refusedState("languages open none", () -> chain(10), x -> x.spell(15));
        taken("one is open", () -> openWordOf(0), x -> x.spell(0));
        TonguerootFamily x = new TonguerootFamily();
        Check.noValue("a refused word", () -> x.word(-1));
        Check.noState("opens none", () -> x.spell(0));
        Check.due("nothing is spelt", 0, () -> x.wealth(0));
    }

    private static void spellAnEleventh() {
        taken("the tenth one", () -> openWordOf(9), x -> x.spell(0));
        for (int sound : row(0, 15)) {
            refusedState("the eleventh one", () -> openWordOf(10), x -> x.spell(sound));
        }
        TonguerootFamily x = openWordOf(10);
        Check.noState("once", () -> x.spell(1));
        Check.noState("and once more", () -> x.spell(1));
        Check.due("ten stay", "0 0 0 0 0 0 0 0 0 0", () -> spelt(x, 0, 3));
        x.word(4);
        Check.due("another one is spelt", 1, () -> x.spell(1));
    }

    // ---- 5 to 7

    private static void languageWithoutLaws() {
        TonguerootFamily x = lawsOf(8);
        x.language(1);
        Check.due("no laws of her own", 0, () -> x.laws(2));
        Check.due("the parent's word", "8 8", () -> spelt(x, 2, 0));
        Check.due("changed by none", 0, () -> x.changedBy(2, 0));
        Check.due("one more", 3, () -> x.languages());
        Check.due("the parent keeps hers", 8, () -> x.laws(1));
    }

    private static void languageNumbers() {
        TonguerootFamily x = new TonguerootFamily();
        for (int number = 1; number < 10; number++) {
            int each = number;
            Check.due("of the one ahead", number, () -> x.language(each - 1));
        }
        TonguerootFamily y = new TonguerootFamily();
        for (int number = 1; number < 10; number++) {
            Check.due("of the mother", number, () -> y.language(0));
        }
    }

    private static void languageOfNoParent() {
        boundsOfPlace(0, 0, TonguerootFamily::new, (x, parent) -> x.language(parent));
        boundsOfPlace(0, 2, FamilyTools::three, (x, parent) -> x.language(parent));
        boundsOfPlace(0, 8, () -> chain(9), (x, parent) -> x.language(parent));
        refusedPlace("there are 10, too", FamilyTools::fullest, x -> x.language(10));
        refusedPlace("there are 10, and it is below 0", FamilyTools::fullest, x -> x.language(-1));
    }

    private static void languageInAFullRow() {
        taken("the tenth one", () -> chain(9), x -> x.language(0));
        for (int parent = 0; parent < 10; parent++) {
            int each = parent;
            refusedState("the eleventh one", () -> chain(10), x -> x.language(each));
        }
        refusedState("all else full, too", FamilyTools::fullest, x -> x.language(9));
    }

    private static void lawBehindTheOthers() {
        TonguerootFamily x = chain(3);
        put(x, 0, 1);
        x.law(1, set(1), 2, 0, 0);
        Check.due("the first one", "2", () -> spelt(x, 1, 0));
        x.law(1, set(2), 3, 0, 0);
        Check.due("behind the first one", "3", () -> spelt(x, 1, 0));
        x.law(1, set(1, 2), 4, 0, 0);
        Check.due("none is left for it", "3", () -> spelt(x, 1, 0));
        Check.due("of no other language", 0, () -> x.laws(2));
        Check.due("the seventh and the eighth", "8 8", () -> spelt(lawsOf(8), 1, 0));
    }

    private static void lawCounts() {
        TonguerootFamily x = chain(10);
        for (int language : row(1, 9)) {
            for (int count = 1; count <= 8; count++) {
                Check.due("of " + language, count, () -> x.law(language, 1, 1, 0, 0));
            }
        }
        x.unlaw(9);
        Check.due("once more", 8, () -> x.law(9, 1, 1, 0, 0));
        Check.due("of another one", 1, () -> x.law(5, 1, 1, 0, 0));
    }

    private static void lawOfNoLanguage() {
        takenAll(row(1, 2), FamilyTools::three, (x, language) -> x.law(language, 1, 1, 0, 0));
        refusedPlaces(row(-1, 3, LOW, HIGH), FamilyTools::three, (x, language) -> x.law(language, 1, 1, 0, 0));
        takenAll(row(1, 9), () -> chain(10), (x, language) -> x.law(language, 1, 1, 0, 0));
        refusedPlaces(row(-1, 10), FamilyTools::fullest, (x, language) -> x.law(language, 1, 1, 0, 0));
        refusedPlace("of a new object", TonguerootFamily::new, x -> x.law(1, 1, 1, 0, 0));
    }

    private static void lawForNoSounds() {
        boundsOfValue(1, 65535, () -> lawsOf(0), (x, sounds) -> x.law(1, sounds, 1, 0, 0));
        boundsOfValue(1, 65535, () -> lawsOf(7), (x, sounds) -> x.law(1, sounds, 1, 0, 0));
        refusedValue("the edge is no sound", () -> lawsOf(0), x -> x.law(1, EDGE | 1, 1, 0, 0));
    }

    private static void lawToNoSound() {
        boundsOfValue(-1, 21, () -> lawsOf(0), (x, becomes) -> x.law(1, 1, becomes, 0, 0));
        for (int becomes = -1; becomes <= 21; becomes++) {
            int each = becomes;
            taken("to " + becomes, () -> lawsOf(7), x -> x.law(1, 1, each, 0, 0));
        }
    }

    private static void lawByNoNeighbours() {
        boundsOfValue(0, 131071, () -> lawsOf(0), (x, ahead) -> x.law(1, 1, 1, ahead, 0));
        boundsOfValue(0, 131071, () -> lawsOf(0), (x, behind) -> x.law(1, 1, 1, 0, behind));
        boundsOfValue(0, 131071, () -> lawsOf(7), (x, ahead) -> x.law(1, 1, 1, ahead, 131071));
        boundsOfValue(0, 131071, () -> lawsOf(7), (x, behind) -> x.law(1, 1, 1, 131071, behind));
    }

    private static void lawOfTheMother() {
        refusedState("of a new object", TonguerootFamily::new, x -> x.law(0, 1, 1, 0, 0));
        refusedState("of three", FamilyTools::three, x -> x.law(0, ANY, 21, 131071, 131071));
        refusedState("of a full one", FamilyTools::fullest, x -> x.law(0, 1, -1, 0, 0));
        taken("of her daughter", FamilyTools::three, x -> x.law(1, 1, 1, 0, 0));
    }

    private static void lawInAFullRow() {
        taken("the eighth one", () -> lawsOf(7), x -> x.law(1, 1, 1, 0, 0));
        refusedState("a ninth one", () -> lawsOf(8), x -> x.law(1, 1, 1, 0, 0));
        for (int language = 1; language < 10; language++) {
            int each = language;
            refusedState("a ninth one of " + language, FamilyTools::fullest, x -> x.law(each, ANY, 0, 0, 0));
        }
        TonguerootFamily x = lawsOf(8);
        Check.noState("once", () -> x.law(1, 1, 1, 0, 0));
        x.unlaw(1);
        Check.due("one was taken away", 8, () -> x.law(1, 1, 1, 0, 0));
        Check.noState("and it is full again", () -> x.law(1, 1, 1, 0, 0));
    }

    private static void lastLawGoes() {
        TonguerootFamily x = lawsOf(8);
        for (int left = 7; left >= 1; left--) {
            int each = left;
            x.unlaw(1);
            Check.due("left are " + left, left + " " + left, () -> spelt(x, 1, 0));
            Check.due("so many", each, () -> x.laws(1));
        }
        x.unlaw(1);
        Check.due("none is left", "0 1", () -> spelt(x, 1, 0));
        TonguerootFamily y = fullest();
        y.unlaw(9);
        Check.due("of no other language", 8, () -> y.laws(8));
        Check.due("of this one", 7, () -> y.laws(9));
    }

    private static void unlawCounts() {
        TonguerootFamily x = fullest();
        for (int language : row(1, 9)) {
            for (int count = 7; count >= 0; count--) {
                Check.due("of " + language, count, () -> x.unlaw(language));
            }
        }
    }

    private static void unlawOfNoLanguage() {
        takenAll(row(1, 9), FamilyTools::fullest, (x, language) -> x.unlaw(language));
        refusedPlaces(row(-1, 10, LOW, HIGH), FamilyTools::fullest, (x, language) -> x.unlaw(language));
        refusedPlaces(row(-1, 3), FamilyTools::three, (x, language) -> x.unlaw(language));
        refusedPlace("of a new object", TonguerootFamily::new, x -> x.unlaw(1));
    }

    private static void unlawInAnEmptyRow() {
        refusedState("the mother of a new object", TonguerootFamily::new, x -> x.unlaw(0));
        refusedState("the mother of a full one", FamilyTools::fullest, x -> x.unlaw(0));
        refusedState("a new daughter", () -> lawsOf(0), x -> x.unlaw(1));
        taken("there is one", () -> lawsOf(1), x -> x.unlaw(1));
        TonguerootFamily x = lawsOf(1);
        x.unlaw(1);
        Check.noState("there was one", () -> x.unlaw(1));
        Check.due("one can come", 1, () -> x.law(1, 1, 1, 0, 0));
    }

    // ---- 8 to 12

    private static void loanComes() {
        TonguerootFamily x = lawsOf(8);
        x.language(0);
        x.loan(0, 1, 2, 0);
        Check.due("the word of 1", "8 8", () -> spelt(x, 2, 0));
        Check.due("of this meaning alone", 1, () -> x.wealth(2));
        Check.due("one loan", 1, () -> x.loans());
        x.unlaw(1);
        Check.due("it follows that", "7 7", () -> spelt(x, 2, 0));
    }

    private static void loanNumbers() {
        TonguerootFamily x = chain(10);
        for (int number = 0; number < 12; number++) {
            int each = number;
            Check.due("the next one", number, () -> x.loan(11 - each, each % 9, 9, each % 9));
        }
    }

    private static void loanOfNoLanguage() {
        takenAll(row(0, 1), FamilyTools::three, (x, from) -> x.loan(0, from, 2, 0));
        takenAll(row(1, 2), FamilyTools::three, (x, to) -> x.loan(0, 0, to, 0));
        takenAll(row(0, 8), () -> chain(10), (x, from) -> x.loan(11, from, 9, 8));
        takenAll(row(1, 9), () -> chain(10), (x, to) -> x.loan(11, 0, to, 8));
        refusedPlaces(row(-1, 3, LOW, HIGH), FamilyTools::three, (x, from) -> x.loan(0, from, 2, 0));
        refusedPlaces(row(-1, 3, LOW, HIGH), FamilyTools::three, (x, to) -> x.loan(0, 0, to, 0));
        refusedPlaces(row(-1, 10), FamilyTools::fullest, (x, from) -> x.loan(11, from, 9, 8));
        refusedPlaces(row(-1, 10), FamilyTools::fullest, (x, to) -> x.loan(11, 0, to, 8));
        refusedPlace("a new object has none to which", TonguerootFamily::new, x -> x.loan(0, 0, 1, 0));
    }

    private static void loanOfNoMeaning() {
        boundsOfValue(0, 11, FamilyTools::three, (x, meaning) -> x.loan(meaning, 0, 1, 0));
        boundsOfValue(0, 11, () -> loansOf(11), (x, meaning) -> x.loan(meaning, 1, 2, 8));
    }

    private static void loanToNoGreaterOne() {
        for (int from = 0; from < 10; from++) {
            for (int to = 0; to < 10; to++) {
                int one = from;
                int other = to;
                if (to > from) {
                    taken(from + " to " + to, () -> chain(10), x -> x.loan(0, one, other, 0));
                } else {
                    refusedValue(from + " to " + to, () -> chain(10), x -> x.loan(0, one, other, 0));
                }
            }
        }
        refusedValue("a new object's mother to herself", TonguerootFamily::new, x -> x.loan(0, 0, 0, 0));
    }

    private static void loanAtNoMoment() {
        boundsOfValue(0, 8, FamilyTools::three, (x, moment) -> x.loan(0, 0, 1, moment));
        boundsOfValue(0, 8, () -> loansOf(11), (x, moment) -> x.loan(11, 1, 2, moment));
        taken("8 without laws", () -> chain(2), x -> x.loan(0, 0, 1, 8));
    }

    private static void loanInAFullRow() {
        taken("the twelfth one", () -> loansOf(11), x -> x.loan(0, 0, 1, 0));
        refusedState("a thirteenth one", () -> loansOf(12), x -> x.loan(0, 0, 1, 0));
        refusedState("all else full, too", FamilyTools::fullest, x -> x.loan(11, 8, 9, 8));
        TonguerootFamily x = loansOf(12);
        Check.noState("once", () -> x.loan(0, 0, 1, 8));
        Check.noState("and once more", () -> x.loan(0, 0, 1, 8));
        Check.due("twelve stay", 12, () -> x.loans());
        Check.due("the first one stays the last", 0, () -> x.origin(1, 0));
    }

    private static void howManyLanguages() {
        for (int count = 1; count <= 10; count++) {
            TonguerootFamily x = chain(count);
            Check.due("so many", count, () -> x.languages());
        }
        Check.due("of a full one", 10, () -> fullest().languages());
    }

    private static void howManyLaws() {
        for (int count = 0; count <= 8; count++) {
            TonguerootFamily x = lawsOf(count);
            Check.due("so many", count, () -> x.laws(1));
            Check.due("never of the mother", 0, () -> x.laws(0));
        }
        Check.due("of the last one", 8, () -> fullest().laws(9));
    }

    private static void lawsOfNoLanguage() {
        boundsOfLanguage((x, language) -> x.laws(language));
    }

    private static void howManyLoans() {
        for (int count = 0; count <= 12; count++) {
            TonguerootFamily x = loansOf(count);
            Check.due("so many", count, () -> x.loans());
        }
    }

    private static void greatestCommon() {
        TonguerootFamily x = tree(0, 1, 2, 3, 4, 5, 6, 7, 8);
        Check.due("itself, the last one", 9, () -> x.common(9, 9));
        Check.due("the mother and the last one", 0, () -> x.common(0, 9));
        Check.due("a parent and the last one", 8, () -> x.common(8, 9));
        Check.due("the last one and one far ahead", 1, () -> x.common(9, 1));
        Check.due("the mother herself", 0, () -> new TonguerootFamily().common(0, 0));
        TonguerootFamily y = tree(0, 0, 1, 2, 3, 4, 5, 6, 8);
        Check.due("two long ways", 0, () -> y.common(9, 7));
        Check.due("two long ways, the other way round", 0, () -> y.common(7, 9));
        TonguerootFamily z = tree(0, 1, 1, 1, 4, 4, 2, 2, 0);
        Check.due("sisters", 4, () -> z.common(5, 6));
        Check.due("sisters of great numbers", 2, () -> z.common(7, 8));
        Check.due("an aunt", 1, () -> z.common(3, 8));
        Check.due("none but the mother", 0, () -> z.common(9, 8));
    }

    private static void commonOfNoLanguage() {
        boundsOfLanguage((x, one) -> x.common(one, 0));
        boundsOfLanguage((x, other) -> x.common(0, other));
        refusedPlace("neither", FamilyTools::three, x -> x.common(3, -1));
    }
}
