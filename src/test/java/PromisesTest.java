/** Each promise of the document by hand: ordinary inputs, edges, wrong inputs. */
public final class PromisesTest extends FamilyTools {
    public static void main(String[] args) {
        newObject();
        setSound();
        word();
        spell();
        language();
        law();
        lawsByNeighbours();
        lawsByFeatures();
        unlaw();
        loan();
        loansByMoments();
        languagesLawsLoans();
        common();
        lengthAndSoundAt();
        originAndChangedBy();
        wealthAlikeSoundsOf();
        cost();
        columns();
        answers();
        mainAnswer();
        far();
        nearest();
        recalled();
        recalledByVotes();
        recalledWell();
        swapped();
        without();
        withoutLoan();
        looksLent();
        digest();
        nothingIsChanged();
        Check.end();
    }

    // ---- promises 1 to 4

    private static void newObject() {
        TonguerootFamily x = new TonguerootFamily();
        Check.due("1: languages", 1, () -> x.languages());
        Check.due("1: loans", 0, () -> x.loans());
        Check.due("1: laws of the mother", 0, () -> x.laws(0));
        Check.due("1: wealth of the mother", 0, () -> x.wealth(0));
        Check.due("1: sounds of the mother", 0, () -> x.soundsOf(0));
        Check.noState("1: no word is open", () -> x.spell(0));
        Check.noPlace("1: no daughter", () -> x.laws(1));
        for (int sound = 0; sound < 16; sound++) {
            int each = sound;
            Check.due("1: no features", 0, () -> x.setSound(each, 0));
        }
        Check.due("1: digest", 8082643768937455733L, () -> x.digest());
        TonguerootFamily y = new TonguerootFamily();
        y.language(0);
        put(y, 0, 1);
        Check.due("1: another object stays apart", 1, () -> x.languages());
        Check.due("1: another object's words stay apart", 0, () -> x.wealth(0));
    }

    private static void setSound() {
        TonguerootFamily x = new TonguerootFamily();
        Check.due("2: none before", 0, () -> x.setSound(15, 63));
        Check.due("2: as given", 63, () -> x.setSound(15, 5));
        Check.due("2: another sound", 0, () -> x.setSound(0, 1));
        for (int sound : row(-1, 16, LOW, HIGH)) {
            Check.noValue("2: sound " + sound, () -> x.setSound(sound, 0));
        }
        for (int features : row(-1, 64, LOW, HIGH)) {
            Check.noValue("2: features " + features, () -> x.setSound(15, features));
        }
        Check.due("2: what throws changes nothing", 5, () -> x.setSound(15, 0));
        put(x, 0, 3);
        x.language(0);
        x.law(1, set(3), 16 + 5, 0, 0);
        Check.due("2: no such sound yet", "3", () -> spelt(x, 1, 0));
        x.setSound(9, 32);
        Check.due("2: laws follow the new features", "9", () -> spelt(x, 1, 0));
        Check.due("2: costs, too", 2, () -> x.cost(0, 0, 1));
        x.setSound(9, 35);
        x.setSound(8, 32);
        Check.due("2: features from now on", "8", () -> spelt(x, 1, 0));
    }

    private static void word() {
        TonguerootFamily x = new TonguerootFamily();
        for (int meaning : row(-1, 12, LOW, HIGH)) {
            Check.noValue("3: meaning " + meaning, () -> x.word(meaning));
        }
        Check.noState("3: a word that throws opens nothing", () -> x.spell(0));
        Check.due("3: none before", 0, () -> x.word(11));
        Check.due("3: an empty word is as none", 0, () -> x.wealth(0));
        x.language(0);
        Check.due("3: for a daughter, too", 0, () -> x.wealth(1));
        Check.due("3: and in costs", -1, () -> x.cost(11, 0, 1));
        x.spell(4);
        x.spell(5);
        Check.due("3: another meaning", 0, () -> x.word(0));
        Check.due("3: the word before stays", "4 5", () -> spelt(x, 0, 11));
        x.spell(6);
        Check.noValue("3: meaning 12", () -> x.word(12));
        Check.due("3: the open one stays open", 2, () -> x.spell(7));
        Check.due("3: how many sounds it had", 2, () -> x.word(11));
        Check.due("3: it is empty now", 0, () -> x.length(0, 11));
        Check.due("3: the daughter's, too", 0, () -> x.length(1, 11));
        Check.due("3: the other one stays", "6 7", () -> spelt(x, 1, 0));
        Check.due("3: it was empty", 0, () -> x.word(11));
        Check.due("3: it is open", 1, () -> x.spell(9));
        Check.due("3: and spelt", "9", () -> spelt(x, 0, 11));
    }

    private static void spell() {
        TonguerootFamily x = new TonguerootFamily();
        Check.noState("4: none open", () -> x.spell(3));
        Check.noValue("4: the sound is looked at first", () -> x.spell(16));
        x.word(2);
        for (int sound : row(-1, 16, LOW, HIGH)) {
            Check.noValue("4: sound " + sound, () -> x.spell(sound));
        }
        for (int place = 0; place < 10; place++) {
            int each = place;
            Check.due("4: how many", place + 1, () -> x.spell(15 - each));
        }
        Check.noState("4: it has 10", () -> x.spell(0));
        Check.noValue("4: it has 10, and no such sound", () -> x.spell(-1));
        Check.due("4: behind the others", "15 14 13 12 11 10 9 8 7 6", () -> spelt(x, 0, 2));
        x.word(2);
        Check.due("4: open anew", 1, () -> x.spell(0));
    }

    // ---- promises 5 to 12

    private static void language() {
        TonguerootFamily x = new TonguerootFamily();
        for (int parent : row(-1, 1, LOW, HIGH)) {
            Check.noPlace("5: parent " + parent, () -> x.language(parent));
        }
        Check.due("5: the first daughter", 1, () -> x.language(0));
        Check.due("5: no laws", 0, () -> x.laws(1));
        for (int number = 2; number < 10; number++) {
            int each = number;
            Check.due("5: the next one", number, () -> x.language(each - 1));
        }
        Check.noState("5: there are 10", () -> x.language(9));
        Check.noPlace("5: there are 10, and no such parent", () -> x.language(10));
        Check.due("5: 10 in all", 10, () -> x.languages());
        put(x, 0, 3, 4);
        x.law(5, set(3), 6, 0, 0);
        Check.due("5: the word ahead of the law", "3 4", () -> spelt(x, 4, 0));
        Check.due("5: the word comes down by the parents", "6 4", () -> spelt(x, 9, 0));
    }

    private static void law() {
        TonguerootFamily x = new TonguerootFamily();
        for (int language : row(-1, 1, LOW, HIGH)) {
            Check.noPlace("6: language " + language, () -> x.law(language, 1, 0, 0, 0));
        }
        Check.noPlace("6: the language is looked at first", () -> x.law(1, 0, 99, -1, -1));
        Check.noState("6: the mother", () -> x.law(0, 1, 0, 0, 0));
        Check.noValue("6: the mother, and no sounds", () -> x.law(0, 0, 0, 0, 0));
        x.language(0);
        for (int sounds : row(0, -1, 65536, LOW, HIGH)) {
            Check.noValue("6: sounds " + sounds, () -> x.law(1, sounds, 0, 0, 0));
        }
        for (int becomes : row(-2, 22, LOW, HIGH)) {
            Check.noValue("6: becomes " + becomes, () -> x.law(1, 1, becomes, 0, 0));
        }
        for (int neighbours : row(-1, 131072, LOW, HIGH)) {
            Check.noValue("6: ahead " + neighbours, () -> x.law(1, 1, 0, neighbours, 0));
            Check.noValue("6: behind " + neighbours, () -> x.law(1, 1, 0, 0, neighbours));
        }
        Check.due("6: what throws changes nothing", 0, () -> x.laws(1));
        Check.due("6: the greatest ones", 1, () -> x.law(1, 65535, 21, 131071, 131071));
        Check.due("6: the smallest ones", 2, () -> x.law(1, 1, -1, 0, 0));
        for (int count = 3; count <= 8; count++) {
            Check.due("6: how many", count, () -> x.law(1, 2, 15, 1, EDGE));
        }
        Check.noState("6: it has 8", () -> x.law(1, 1, 0, 0, 0));
        Check.noValue("6: it has 8, and no sounds", () -> x.law(1, 0, 0, 0, 0));
        TonguerootFamily y = new TonguerootFamily();
        put(y, 0, 1);
        y.language(0);
        y.law(1, set(1), 2, 0, 0);
        y.law(1, set(2), 3, 0, 0);
        y.law(1, set(1), 4, 0, 0);
        Check.due("6: one behind the other", "3", () -> spelt(y, 1, 0));
    }

    private static void lawsByNeighbours() {
        int[] word = row(0, 0, 0);
        Check.due("6: all of them", "1 1 1", () -> after(word, set(0), 1, 0, 0));
        Check.due("6: only its own sounds", "1 2 1", () -> after(row(0, 2, 3), set(0, 3), 1, 0, 0));
        Check.due("6: at once, by what stood ahead", "0 1 1", () -> after(word, set(0), 1, set(0), 0));
        Check.due("6: at once, by what stood behind", "1 1 0", () -> after(word, set(0), 1, 0, set(0)));
        Check.due("6: both", "0 1 0", () -> after(word, set(0), 1, set(0), set(0)));
        Check.due("6: the edge ahead", "1 0 0", () -> after(word, set(0), 1, EDGE, 0));
        Check.due("6: the edge behind", "0 0 1", () -> after(word, set(0), 1, 0, EDGE));
        Check.due("6: an edge at either side", "0 0 0", () -> after(word, set(0), 1, EDGE, EDGE));
        Check.due("6: a word of one sound", "1", () -> after(row(0), set(0), 1, EDGE, EDGE));
        Check.due("6: the edge, or a sound", "1 1 2 0", () -> after(row(0, 0, 2, 0), set(0), 1, EDGE | set(0), 0));
        Check.due("6: right ahead alone", "2 3 0", () -> after(row(2, 3, 0), set(0), 1, set(2), 0));
        Check.due("6: sound 15 ahead", "15 1", () -> after(row(15, 0), set(0), 1, set(15), 0));
        Check.due("6: sound 15 is no edge", "0", () -> after(row(0), set(0), 1, set(15), 0));
        Check.due("6: left out at once", "0", () -> after(word, set(0), -1, set(0), 0));
        Check.due("6: left out in the middle", "2 3", () -> after(row(2, 0, 3), set(0), -1, 0, 0));
        Check.due("6: never without sounds", "0 0 0", () -> after(word, set(0), -1, 0, 0));
        Check.due("6: ten sounds", "1 1 1 1 1 1 1 1 1 1",
            () -> after(row(0, 0, 0, 0, 0, 0, 0, 0, 0, 0), set(0), 1, 0, 0));
        Check.due("6: what goes at once stood there", "2", () -> after(row(2, 0, 3), set(0, 3), -1, set(2, 0), 0));
    }

    private static void lawsByFeatures() {
        TonguerootFamily x = new TonguerootFamily();
        x.setSound(0, 1);
        x.setSound(5, 3);
        x.setSound(7, 3);
        x.setSound(9, 8);
        put(x, 0, 0, 7, 5, 9, 2);
        x.language(0);
        x.law(1, 65535, 16 + 1, 0, 0);
        Check.due("6: feature 1 is turned, the smallest sound", "5 0 0 9 2", () -> spelt(x, 1, 0));
        x.unlaw(1);
        x.law(1, 65535, 16, 0, 0);
        Check.due("6: feature 0 is turned", "1 7 5 9 0", () -> spelt(x, 1, 0));
        x.unlaw(1);
        x.law(1, 65535, 16 + 3, 0, 0);
        Check.due("6: feature 3 is turned", "0 7 5 1 9", () -> spelt(x, 1, 0));
    }

    private static void unlaw() {
        TonguerootFamily x = new TonguerootFamily();
        for (int language : row(-1, 1, LOW, HIGH)) {
            Check.noPlace("7: language " + language, () -> x.unlaw(language));
        }
        Check.noState("7: the mother has none", () -> x.unlaw(0));
        put(x, 0, 1);
        x.language(0);
        Check.noState("7: it has none", () -> x.unlaw(1));
        x.law(1, set(1), 2, 0, 0);
        x.law(1, set(2), 3, 0, 0);
        Check.due("7: by both", "3", () -> spelt(x, 1, 0));
        Check.due("7: the last one goes", 1, () -> x.unlaw(1));
        Check.due("7: by the first one", "2", () -> spelt(x, 1, 0));
        Check.due("7: the first one goes", 0, () -> x.unlaw(1));
        Check.due("7: by none", "1", () -> spelt(x, 1, 0));
        Check.noState("7: there is none again", () -> x.unlaw(1));
    }

    private static void loan() {
        TonguerootFamily x = new TonguerootFamily();
        x.language(0);
        x.language(0);
        for (int language : row(-1, 3, LOW, HIGH)) {
            Check.noPlace("8: from " + language, () -> x.loan(0, language, 2, 0));
            Check.noPlace("8: to " + language, () -> x.loan(0, 1, language, 0));
        }
        Check.noPlace("8: the languages are looked at first", () -> x.loan(12, 3, 2, 9));
        for (int meaning : row(-1, 12, LOW, HIGH)) {
            Check.noValue("8: meaning " + meaning, () -> x.loan(meaning, 0, 1, 0));
        }
        for (int moment : row(-1, 9, LOW, HIGH)) {
            Check.noValue("8: moment " + moment, () -> x.loan(0, 0, 1, moment));
        }
        Check.noValue("8: to itself", () -> x.loan(0, 1, 1, 0));
        Check.noValue("8: to a smaller one", () -> x.loan(0, 2, 1, 0));
        Check.noValue("8: to the mother", () -> x.loan(0, 1, 0, 0));
        Check.due("8: what throws changes nothing", 0, () -> x.loans());
        for (int number = 0; number < 12; number++) {
            int each = number;
            Check.due("8: its number", number, () -> x.loan(each, each % 2, 2, each % 9));
        }
        Check.noState("8: there are 12", () -> x.loan(0, 0, 1, 0));
        Check.noValue("8: there are 12, and no such meaning", () -> x.loan(12, 0, 1, 0));
        Check.due("8: 12 in all", 12, () -> x.loans());
    }

    private static void loansByMoments() {
        TonguerootFamily x = new TonguerootFamily();
        put(x, 0, 1);
        x.language(0);
        x.law(1, set(1), 5, 0, 0);
        x.language(0);
        x.law(2, set(1), 2, 0, 0);
        x.law(2, set(5), 6, 0, 0);
        x.law(2, set(6), 7, 0, 0);
        Check.due("8: no loan", "2", () -> spelt(x, 2, 0));
        x.loan(0, 1, 2, 8);
        Check.due("8: behind all laws", "5", () -> spelt(x, 2, 0));
        x.loan(0, 1, 2, 2);
        Check.due("8: the later moment stands", "5", () -> spelt(x, 2, 0));
        Check.due("8: it is the first loan's", 0, () -> x.origin(2, 0));
        x.loan(0, 0, 2, 8);
        Check.due("8: of one moment the later number", "1", () -> spelt(x, 2, 0));
        Check.due("8: and its number", 2, () -> x.origin(2, 0));
        x.loan(1, 1, 2, 8);
        Check.due("8: a meaning without a word", 0, () -> x.length(2, 1));
        Check.due("8: nothing happens then", -1, () -> x.origin(2, 1));

        TonguerootFamily y = new TonguerootFamily();
        put(y, 0, 1);
        put(y, 1, 1);
        y.language(0);
        y.language(0);
        y.law(2, set(1), 2, 0, 0);
        y.law(2, set(1), 3, 0, 0);
        y.loan(0, 1, 2, 1);
        Check.due("8: behind one law, the other goes over it", "3", () -> spelt(y, 2, 0));
        Check.due("8: another meaning is not lent", "2", () -> spelt(y, 2, 1));
        y.loan(0, 1, 2, 0);
        Check.due("8: an earlier moment changes nothing more", "3", () -> spelt(y, 2, 0));
        Check.due("8: the loan that came last", 0, () -> y.origin(2, 0));

        TonguerootFamily z = new TonguerootFamily();
        put(z, 0, 1);
        z.language(0);
        z.loan(0, 0, 1, 7);
        z.loan(0, 0, 1, 5);
        Check.due("8: moments count as told without laws", 0, () -> z.origin(1, 0));
    }

    private static void languagesLawsLoans() {
        TonguerootFamily x = new TonguerootFamily();
        x.language(0);
        x.language(1);
        x.law(2, 1, 1, 0, 0);
        x.law(2, 1, 1, 0, 0);
        x.law(1, 1, 1, 0, 0);
        x.loan(0, 0, 1, 0);
        Check.due("9: languages", 3, () -> x.languages());
        Check.due("10: laws of 2", 2, () -> x.laws(2));
        Check.due("10: laws of 1", 1, () -> x.laws(1));
        Check.due("10: laws of the mother", 0, () -> x.laws(0));
        for (int language : row(-1, 3, LOW, HIGH)) {
            Check.noPlace("10: language " + language, () -> x.laws(language));
        }
        Check.due("11: loans", 1, () -> x.loans());
        x.loan(0, 0, 1, 0);
        Check.due("11: one more", 2, () -> x.loans());
    }

    private static void common() {
        TonguerootFamily x = new TonguerootFamily();
        int[] parents = row(0, 1, 1, 2, 3, 0, 6, 5);
        for (int parent : parents) {
            x.language(parent);
        }
        Check.due("12: cousins", 1, () -> x.common(4, 5));
        Check.due("12: the other way round", 1, () -> x.common(5, 4));
        Check.due("12: one of both comes of the other one", 3, () -> x.common(3, 8));
        Check.due("12: itself", 7, () -> x.common(7, 7));
        Check.due("12: only the mother", 0, () -> x.common(7, 8));
        Check.due("12: with the mother", 0, () -> x.common(0, 8));
        Check.due("12: of the mother", 0, () -> x.common(0, 0));
        for (int language : row(-1, 9, LOW, HIGH)) {
            Check.noPlace("12: one " + language, () -> x.common(language, 0));
            Check.noPlace("12: other " + language, () -> x.common(0, language));
        }
    }

    // ---- promises 13 to 19

    private static void lengthAndSoundAt() {
        TonguerootFamily x = new TonguerootFamily();
        put(x, 11, 3, 0, 15);
        x.language(0);
        x.law(1, set(0), -1, 0, 0);
        Check.due("13: the mother's", 3, () -> x.length(0, 11));
        Check.due("13: the daughter's", 2, () -> x.length(1, 11));
        Check.due("13: none", 0, () -> x.length(1, 0));
        Check.due("14: the mother's", "3 0 15", () -> spelt(x, 0, 11));
        Check.due("14: the daughter's", "3 15", () -> spelt(x, 1, 11));
        for (int wrong : row(-1, 12, LOW, HIGH)) {
            Check.noPlace("13: language " + wrong, () -> x.length(wrong, 11));
            Check.noPlace("13: meaning " + wrong, () -> x.length(0, wrong));
            Check.noPlace("14: language " + wrong, () -> x.soundAt(wrong, 11, 0));
            Check.noPlace("14: meaning " + wrong, () -> x.soundAt(0, wrong, 0));
            Check.noPlace("14: place " + wrong, () -> x.soundAt(0, 11, wrong));
        }
        Check.noPlace("14: behind the word", () -> x.soundAt(1, 11, 2));
        Check.noPlace("14: no word", () -> x.soundAt(1, 0, 0));
        Check.noPlace("13: no such language yet", () -> x.length(2, 11));
    }

    private static void originAndChangedBy() {
        TonguerootFamily x = new TonguerootFamily();
        put(x, 0, 1, 2);
        x.language(0);
        x.language(1);
        x.language(2);
        x.law(1, set(9), 8, 0, 0);
        x.law(1, set(1), 3, 0, 0);
        x.law(1, set(3), 3, 0, 0);
        x.law(1, set(2), -1, 0, 0);
        Check.due("16: the laws 1 and 3", 10, () -> x.changedBy(1, 0));
        Check.due("16: only its own laws", 0, () -> x.changedBy(2, 0));
        Check.due("16: the mother", 0, () -> x.changedBy(0, 0));
        Check.due("16: without a word", 0, () -> x.changedBy(1, 1));
        Check.due("15: as the mother gave it", -1, () -> x.origin(1, 0));
        Check.due("15: without a word", -1, () -> x.origin(1, 1));
        x.loan(0, 0, 1, 2);
        Check.due("15: the loan", 0, () -> x.origin(1, 0));
        Check.due("15: on its way to a daughter", 0, () -> x.origin(3, 0));
        Check.due("15: the mother", -1, () -> x.origin(0, 0));
        Check.due("16: from the loan on", 8, () -> x.changedBy(1, 0));
        x.loan(0, 1, 3, 0);
        Check.due("15: the same word, but lent", 1, () -> x.origin(3, 0));
        x.loan(0, 2, 3, 0);
        Check.due("15: the last one", 2, () -> x.origin(3, 0));
        Check.due("15: the one between", 0, () -> x.origin(2, 0));
        x.law(3, set(1), 4, 0, 0);
        x.law(3, set(4), 1, 0, 0);
        x.law(3, set(1), -1, 0, 0);
        Check.due("16: there and back, and what would leave nothing", 3, () -> x.changedBy(3, 0));
        for (int wrong : row(-1, 12, LOW, HIGH)) {
            Check.noPlace("15: language " + wrong, () -> x.origin(wrong, 0));
            Check.noPlace("15: meaning " + wrong, () -> x.origin(0, wrong));
            Check.noPlace("16: language " + wrong, () -> x.changedBy(wrong, 0));
            Check.noPlace("16: meaning " + wrong, () -> x.changedBy(0, wrong));
        }
        TonguerootFamily y = new TonguerootFamily();
        put(y, 0, 1);
        y.language(0);
        for (int law = 0; law < 8; law++) {
            y.law(1, set(law + 1), law + 2, 0, 0);
        }
        Check.due("16: all 8 laws", 255, () -> y.changedBy(1, 0));
        y.loan(0, 0, 1, 8);
        Check.due("16: a loan behind all", 0, () -> y.changedBy(1, 0));
    }

    private static void wealthAlikeSoundsOf() {
        TonguerootFamily x = new TonguerootFamily();
        put(x, 0, 1, 2);
        put(x, 3, 1, 2, 0);
        put(x, 11, 2, 1);
        put(x, 5, 1, 2);
        x.word(7);
        x.language(0);
        x.law(1, set(0), -1, 0, 0);
        Check.due("17: the mother", 4, () -> x.wealth(0));
        Check.due("17: the daughter", 4, () -> x.wealth(1));
        Check.due("18: one pair", 1, () -> x.alike(0));
        Check.due("18: of three the same", 3, () -> x.alike(1));
        Check.due("19: the mother", 7, () -> x.soundsOf(0));
        Check.due("19: the daughter", 6, () -> x.soundsOf(1));
        x.spell(15);
        x.spell(0);
        Check.due("17: one more", 5, () -> x.wealth(1));
        Check.due("19: sound 15", 7 | 1 << 15, () -> x.soundsOf(0));
        for (int wrong : row(-1, 2, LOW, HIGH)) {
            Check.noPlace("17: language " + wrong, () -> x.wealth(wrong));
            Check.noPlace("18: language " + wrong, () -> x.alike(wrong));
            Check.noPlace("19: language " + wrong, () -> x.soundsOf(wrong));
        }
        TonguerootFamily y = new TonguerootFamily();
        put(y, 0, 0);
        put(y, 1, 0, 0);
        Check.due("18: longer is another one", 0, () -> y.alike(0));
        for (int meaning = 0; meaning < 12; meaning++) {
            put(y, meaning, 4);
        }
        Check.due("18: all pairs", 66, () -> y.alike(0));
        Check.due("17: all meanings", 12, () -> y.wealth(0));
    }

    // ---- promises 20 to 26

    private static void cost() {
        TonguerootFamily x = new TonguerootFamily();
        x.setSound(2, 7);
        put(x, 0, 1, 2, 3);
        x.language(0);
        x.law(1, set(1), 4, 0, 0);
        Check.due("20: the same word", 0, () -> x.cost(0, 0, 0));
        Check.due("20: one sound of the same features", 1, () -> x.cost(0, 0, 1));
        x.law(1, set(2), 1, 0, 0);
        Check.due("20: three features more", 5, () -> x.cost(0, 0, 1));
        Check.due("20: the other way round", 5, () -> x.cost(0, 1, 0));
        x.setSound(1, 3);
        Check.due("20: features from now on", 1 + 2 + 1 + 1, () -> x.cost(0, 0, 1));
        x.law(1, set(3), -1, 0, 0);
        Check.due("20: a gap", 1 + 2 + 1 + 1 + 4, () -> x.cost(0, 0, 1));
        Check.due("20: no word", -1, () -> x.cost(1, 0, 1));
        for (int wrong : row(-1, 2, LOW, HIGH)) {
            Check.noPlace("20: one " + wrong, () -> x.cost(0, wrong, 0));
            Check.noPlace("20: other " + wrong, () -> x.cost(0, 0, wrong));
            Check.noPlace("20: the languages are looked at first", () -> x.cost(12, 0, wrong));
        }
        for (int wrong : row(-1, 12, LOW, HIGH)) {
            Check.noValue("20: meaning " + wrong, () -> x.cost(wrong, 0, 1));
        }
        TonguerootFamily y = farSounds();
        put(y, 0, 0, 1);
        y.language(0);
        y.law(1, set(0), -1, 0, 0);
        y.law(1, set(1), 0, 0, 0);
        Check.due("20: 0 1 and 0", 4, () -> y.cost(0, 0, 1));
        put(y, 0, 1, 0);
        Check.due("20: 1 0 and 0", 4, () -> y.cost(0, 0, 1));
        y.law(1, 65535, 1, 0, 0);
        put(y, 0, 0, 0, 0, 0, 0, 0, 0, 0, 0, 0);
        Check.due("20: ten far ones", 70, () -> y.cost(0, 0, 1));
    }

    private static void columns() {
        TonguerootFamily x = farSounds();
        put(x, 0, 0, 1);
        x.language(0);
        x.setSound(2, 63);
        x.law(1, set(0), 2, 0, 0);
        x.law(1, set(1), 0, 0, 0);
        x.law(1, set(2), 1, 0, 0);
        Check.due("21: 0 1 and 1 0", 3, () -> x.columns(0, 0, 1));
        Check.due("22: of two ways, the gap in the second first", "16 17 256", () -> table(x, 0, 0, 1));
        Check.due("22: the other way round", "32 0 257", () -> table(x, 0, 1, 0));
        Check.due("21: a word with itself", 2, () -> x.columns(0, 0, 0));
        Check.due("22: a word with itself", "0 17", () -> table(x, 0, 0, 0));
        Check.due("21: no word", 0, () -> x.columns(1, 0, 1));
        Check.noValue("22: no column without a word", () -> x.columnAt(1, 0, 1, 0));
        Check.noValue("22: behind the last column", () -> x.columnAt(0, 0, 1, 3));
        for (int wrong : row(-1, 2, LOW, HIGH)) {
            Check.noPlace("21: one " + wrong, () -> x.columns(12, wrong, 0));
            Check.noPlace("21: other " + wrong, () -> x.columns(0, 0, wrong));
            Check.noPlace("22: one " + wrong, () -> x.columnAt(12, wrong, 0, 0));
            Check.noPlace("22: other " + wrong, () -> x.columnAt(0, 0, wrong, -1));
        }
        for (int wrong : row(-1, 12, LOW, HIGH)) {
            Check.noValue("21: meaning " + wrong, () -> x.columns(wrong, 0, 1));
            Check.noValue("22: meaning " + wrong, () -> x.columnAt(wrong, 0, 1, 0));
            Check.noValue("22: column " + wrong, () -> x.columnAt(0, 0, 1, wrong));
        }
        TonguerootFamily y = new TonguerootFamily();
        put(y, 0, 3, 3, 3);
        y.language(0);
        y.law(1, set(3), -1, EDGE, 0);
        Check.due("22: pairs come first", "51 51 64", () -> table(y, 0, 0, 1));
        Check.due("22: gaps in the first come last", "51 51 259", () -> table(y, 0, 1, 0));
        y.law(1, set(3), 4, 0, EDGE);
        Check.due("22: the least cost goes ahead of that", "51 52 64", () -> table(y, 0, 0, 1));
        put(y, 0, 4, 3, 3);
        Check.due("22: of words as long no gap", "68 51 52", () -> table(y, 0, 0, 1));
    }

    private static TonguerootFamily answering() {
        TonguerootFamily x = new TonguerootFamily();
        put(x, 0, 1, 2);
        put(x, 1, 1, 1);
        put(x, 2, 3);
        x.language(0);
        x.law(1, set(1), 4, 0, set(2));
        x.law(1, set(2), -1, 0, 0);
        return x;
    }

    private static void answers() {
        TonguerootFamily x = answering();
        Check.due("23: 1 to 1, in one word", 2, () -> x.answers(0, 1, 1, 1));
        Check.due("23: 1 to 4", 1, () -> x.answers(0, 1, 1, 4));
        Check.due("23: 2 to a gap", 1, () -> x.answers(0, 1, 2, -1));
        Check.due("23: a gap to 2", 1, () -> x.answers(1, 0, -1, 2));
        Check.due("23: a gap to a gap", 0, () -> x.answers(0, 1, -1, -1));
        Check.due("23: never", 0, () -> x.answers(0, 1, 15, 15));
        Check.due("23: with itself", 3, () -> x.answers(0, 0, 1, 1));
        x.loan(1, 0, 1, 2);
        Check.due("23: not kin any longer", 0, () -> x.answers(0, 1, 1, 1));
        x.language(1);
        Check.due("23: kin by the same loan", 2, () -> x.answers(1, 2, 1, 1));
        for (int wrong : row(-1, 3, LOW, HIGH)) {
            Check.noPlace("23: one " + wrong, () -> x.answers(wrong, 0, 16, 0));
            Check.noPlace("23: other " + wrong, () -> x.answers(0, wrong, 0, -2));
        }
        for (int wrong : row(-2, 16, LOW, HIGH)) {
            Check.noValue("23: sound " + wrong, () -> x.answers(0, 1, wrong, 0));
            Check.noValue("23: answer " + wrong, () -> x.answers(0, 1, 0, wrong));
        }
    }

    private static void mainAnswer() {
        TonguerootFamily x = answering();
        Check.due("24: most often", 1, () -> x.mainAnswer(0, 1, 1));
        Check.due("24: a gap", -1, () -> x.mainAnswer(0, 1, 2));
        Check.due("24: never", -2, () -> x.mainAnswer(0, 1, 0));
        put(x, 3, 2, 5);
        x.unlaw(1);
        x.law(1, set(2), -1, 0, EDGE);
        Check.due("24: a sound ahead of a gap", 2, () -> x.mainAnswer(0, 1, 2));
        put(x, 4, 1, 2);
        Check.due("24: of two as often the smaller one", 1, () -> x.mainAnswer(0, 1, 1));
        Check.due("24: but the gap if it is most often", -1, () -> x.mainAnswer(0, 1, 2));
        put(x, 5, 1, 2);
        Check.due("24: more often goes ahead of smaller", 4, () -> x.mainAnswer(0, 1, 1));
        x.loan(5, 0, 1, 8);
        Check.due("24: of kin words alone", 1, () -> x.mainAnswer(0, 1, 1));
        for (int wrong : row(-1, 2, LOW, HIGH)) {
            Check.noPlace("24: one " + wrong, () -> x.mainAnswer(wrong, 0, 16));
            Check.noPlace("24: other " + wrong, () -> x.mainAnswer(0, wrong, -1));
        }
        for (int wrong : row(-1, 16, LOW, HIGH)) {
            Check.noValue("24: sound " + wrong, () -> x.mainAnswer(0, 1, wrong));
        }
    }

    private static void far() {
        TonguerootFamily x = new TonguerootFamily();
        x.language(0);
        Check.due("25: no words", 0.0, () -> x.far(0, 1));
        put(x, 0, 1);
        put(x, 1, 1, 1);
        put(x, 2, 3);
        x.law(1, set(1), 2, 0, 0);
        Check.due("25: 1, 2 and 0 of three", 1.0, () -> x.far(0, 1));
        x.setSound(3, 1);
        x.law(1, set(3), 2, 0, 0);
        Check.due("25: 1, 2 and 2 of three, not cut", 5.0 / 3, () -> x.far(0, 1));
        Check.due("25: the other way round", 5.0 / 3, () -> x.far(1, 0));
        Check.due("25: with itself", 0.0, () -> x.far(1, 1));
        x.loan(2, 0, 1, 8);
        Check.due("25: kin or not", 1.0, () -> x.far(0, 1));
        for (int wrong : row(-1, 2, LOW, HIGH)) {
            Check.noPlace("25: one " + wrong, () -> x.far(wrong, 0));
            Check.noPlace("25: other " + wrong, () -> x.far(0, wrong));
        }
    }

    private static void nearest() {
        TonguerootFamily x = new TonguerootFamily();
        Check.due("26: the mother alone", -1, () -> x.nearest(0));
        x.language(0);
        x.language(0);
        x.language(0);
        Check.due("26: no words", -1, () -> x.nearest(0));
        put(x, 0, 1, 1);
        x.law(1, set(1), 2, 0, 0);
        x.law(2, set(1), 2, EDGE, 0);
        Check.due("26: of 1", 2, () -> x.nearest(1));
        Check.due("26: the same word", 3, () -> x.nearest(0));
        Check.due("26: of several the smallest", 0, () -> x.nearest(2));
        x.law(3, set(1), 3, 0, 0);
        Check.due("26: the least far, not the smallest", 2, () -> x.nearest(0));
        for (int wrong : row(-1, 4, LOW, HIGH)) {
            Check.noPlace("26: language " + wrong, () -> x.nearest(wrong));
        }
    }

    // ---- promises 27 to 29

    private static void recalled() {
        TonguerootFamily x = new TonguerootFamily();
        put(x, 0, 1, 2);
        Check.due("27: no daughters", 0, () -> x.recalled(0, 0));
        x.language(0);
        x.law(1, set(1), 3, 0, 0);
        Check.due("27: one daughter", "3 2", () -> recalledWord(x, 0, 0));
        Check.due("27: the daughter has none", 0, () -> x.recalled(1, 0));
        Check.due("27: no word", 0, () -> x.recalled(0, 1));
        x.language(1);
        Check.due("27: by the granddaughter", "3 2", () -> recalledWord(x, 1, 0));
        x.loan(0, 0, 1, 0);
        Check.due("27: a lent word is not kin", 0, () -> x.recalled(0, 0));
        Check.due("27: kin by the loan", "3 2", () -> recalledWord(x, 1, 0));
        Check.noPlace("28: nothing is recalled", () -> x.recalledAt(0, 0, 0));
        Check.noPlace("28: behind the word", () -> x.recalledAt(1, 0, 2));
        for (int wrong : row(-1, 12, LOW, HIGH)) {
            Check.noPlace("27: language " + wrong, () -> x.recalled(wrong, 0));
            Check.noPlace("27: meaning " + wrong, () -> x.recalled(0, wrong));
            Check.noPlace("28: language " + wrong, () -> x.recalledAt(wrong, 0, 0));
            Check.noPlace("28: meaning " + wrong, () -> x.recalledAt(1, wrong, 0));
            Check.noPlace("28: place " + wrong, () -> x.recalledAt(1, 0, wrong));
        }
    }

    private static void recalledByVotes() {
        TonguerootFamily x = new TonguerootFamily();
        put(x, 0, 5, 6, 7);
        x.language(0);
        x.law(1, set(5), 9, 0, 0);
        x.language(0);
        x.law(2, set(6), 8, 0, 0);
        Check.due("27: of two the smaller sounds", "5 6 7", () -> recalledWord(x, 0, 0));
        x.language(0);
        x.law(3, set(5), 9, 0, 0);
        x.law(3, set(6), 8, 0, 0);
        Check.due("27: most votes", "9 8 7", () -> recalledWord(x, 0, 0));
        x.law(2, set(7), -1, 0, 0);
        Check.due("27: a sound ahead of gaps", "9 8 7", () -> recalledWord(x, 0, 0));
        x.law(3, set(7), -1, 0, 0);
        Check.due("27: gaps are left out", "9 8", () -> recalledWord(x, 0, 0));
        Check.due("27: how many are left", 2, () -> x.recalled(0, 0));
        x.unlaw(3);
        x.unlaw(2);
        x.law(1, set(7), -1, 0, 0);
        Check.due("27: only the first one's places", "9 8", () -> recalledWord(x, 0, 0));
        x.loan(0, 0, 1, 8);
        Check.due("27: the first kin one", "5 8 7", () -> recalledWord(x, 0, 0));
        TonguerootFamily y = new TonguerootFamily();
        put(y, 0, 5, 6);
        y.language(0);
        y.language(0);
        y.law(2, set(6), -1, 0, 0);
        Check.due("27: one vote and one gap", "5 6", () -> recalledWord(y, 0, 0));
    }

    private static void recalledWell() {
        TonguerootFamily x = new TonguerootFamily();
        put(x, 0, 1, 2);
        put(x, 1, 2);
        put(x, 2, 3, 3);
        Check.due("29: no daughters", 0, () -> x.recalledWell(0));
        x.language(0);
        Check.due("29: unchanged", 3, () -> x.recalledWell(0));
        x.law(1, set(1), -1, 0, 0);
        Check.due("29: one is shorter", 2, () -> x.recalledWell(0));
        x.law(1, set(3), 4, 0, 0);
        Check.due("29: one is another one", 1, () -> x.recalledWell(0));
        Check.due("29: the daughter has none", 0, () -> x.recalledWell(1));
        x.loan(1, 0, 1, 8);
        Check.due("29: the same, but lent", 0, () -> x.recalledWell(0));
        for (int wrong : row(-1, 2, LOW, HIGH)) {
            Check.noPlace("29: language " + wrong, () -> x.recalledWell(wrong));
        }
    }

    // ---- promises 30 to 34

    private static void swapped() {
        TonguerootFamily x = new TonguerootFamily();
        put(x, 0, 1);
        put(x, 1, 2);
        put(x, 2, 1, 2);
        x.language(0);
        x.law(1, set(1), 2, 0, 0);
        x.law(1, set(2), 3, 0, 0);
        x.law(1, set(9), 9, 0, 0);
        x.language(1);
        Check.due("30: those with a 1", 2, () -> x.swapped(1, 0));
        Check.due("30: none", 0, () -> x.swapped(1, 1));
        Check.noValue("30: the last one", () -> x.swapped(1, 2));
        x.loan(0, 0, 1, 1);
        Check.due("30: a loan at its moment, as it is", 2, () -> x.swapped(1, 0));
        x.loan(2, 0, 1, 2);
        Check.due("30: a loan behind both", 1, () -> x.swapped(1, 0));
        Check.due("30: nothing is changed", "1", () -> spelt(x, 1, 0));
        for (int wrong : row(-1, 3, LOW, HIGH)) {
            Check.noPlace("30: language " + wrong, () -> x.swapped(wrong, 0));
            Check.noPlace("30: law " + wrong, () -> x.swapped(1, wrong));
        }
        Check.noPlace("30: the mother", () -> x.swapped(0, 0));
        Check.noPlace("30: no laws", () -> x.swapped(2, 0));
    }

    private static void without() {
        TonguerootFamily x = new TonguerootFamily();
        put(x, 0, 1);
        put(x, 1, 2);
        put(x, 2, 1, 2);
        x.language(0);
        x.law(1, set(1), 3, 0, 0);
        x.law(1, set(2), 4, 0, 0);
        x.language(1);
        x.language(0);
        Check.due("31: two meanings, two languages", 4, () -> x.without(1, 0));
        Check.due("31: the last law", 4, () -> x.without(1, 1));
        x.loan(0, 1, 3, 0);
        Check.due("31: by a loan, too", 5, () -> x.without(1, 0));
        x.law(2, set(1, 3), 5, 0, 0);
        Check.due("31: a later law makes it the same", 3, () -> x.without(1, 0));
        x.loan(1, 0, 1, 1);
        Check.due("31: moments as they are, by the laws left", 5, () -> x.without(1, 0));
        for (int wrong : row(-1, 2, LOW, HIGH)) {
            Check.noPlace("31: law " + wrong, () -> x.without(1, wrong));
        }
        for (int wrong : row(-1, 4, LOW, HIGH)) {
            Check.noPlace("31: language " + wrong, () -> x.without(wrong, 0));
        }
        Check.noPlace("31: the mother", () -> x.without(0, 0));
    }

    private static void withoutLoan() {
        TonguerootFamily x = new TonguerootFamily();
        put(x, 0, 1);
        x.language(0);
        x.law(1, set(1), 2, 0, 0);
        x.language(0);
        x.language(2);
        for (int wrong : row(-1, 0, LOW, HIGH)) {
            Check.noPlace("32: loan " + wrong, () -> x.withoutLoan(wrong));
        }
        x.loan(0, 1, 2, 0);
        Check.due("32: the language and its daughter", 2, () -> x.withoutLoan(0));
        x.loan(0, 1, 3, 0);
        Check.due("32: the same word either way", 0, () -> x.withoutLoan(1));
        Check.due("32: the daughter has her own", 1, () -> x.withoutLoan(0));
        x.loan(5, 1, 3, 0);
        Check.due("32: no word", 0, () -> x.withoutLoan(2));
        x.loan(0, 0, 3, 8);
        Check.due("32: the last one", 1, () -> x.withoutLoan(3));
        Check.due("32: one that is covered", 0, () -> x.withoutLoan(1));
        Check.noPlace("32: no such loan", () -> x.withoutLoan(4));
    }

    private static void looksLent() {
        TonguerootFamily x = new TonguerootFamily();
        put(x, 0, 1);
        put(x, 1, 1);
        x.language(0);
        x.law(1, set(1), 2, 0, 0);
        x.language(1);
        x.language(0);
        Check.due("33: no loans", false, () -> x.looksLent(1, 0));
        x.loan(0, 0, 1, 1);
        Check.due("33: lent, and another one", true, () -> x.looksLent(1, 0));
        Check.due("33: its daughter", true, () -> x.looksLent(2, 0));
        Check.due("33: another meaning", false, () -> x.looksLent(1, 1));
        Check.due("33: not lent to", false, () -> x.looksLent(3, 0));
        x.loan(0, 1, 3, 0);
        Check.due("33: lent, but the same", false, () -> x.looksLent(3, 0));
        Check.due("33: without a word", false, () -> x.looksLent(1, 2));
        x.law(1, set(1), 2, 0, 0);
        Check.due("33: the same by a later law", false, () -> x.looksLent(1, 0));
        Check.due("33: and then lent on, it is another one", true, () -> x.looksLent(3, 0));
        for (int wrong : row(-1, 12, LOW, HIGH)) {
            Check.noPlace("33: language " + wrong, () -> x.looksLent(wrong, 0));
            Check.noPlace("33: meaning " + wrong, () -> x.looksLent(0, wrong));
        }
    }

    /** Each word and each cost is asked of a family of its own, for after 512 calls an answer is free. */
    private static void digest() {
        int languages = fullFamily().languages();
        long d = (2677 * 31L + languages) * 31 + fullFamily().loans();
        for (int l = 0; l < languages; l++) {
            TonguerootFamily x = fullFamily();
            for (int v : row(x.laws(l), x.wealth(l), x.alike(l), x.soundsOf(l), x.nearest(l), x.recalledWell(l))) {
                d = d * 31 + v;
            }
            for (int m = 0; m < 12; m++) {
                d = withWord(d, fullFamily(), l, m);
            }
        }
        for (int a = 0; a < languages; a++) {
            for (int b = a + 1; b < languages; b++) {
                TonguerootFamily x = fullFamily();
                for (int m = 0; m < 12; m++) {
                    d = d * 31 + x.cost(m, a, b);
                }
            }
        }
        long want = d;
        TonguerootFamily x = fullFamily();
        Check.due("34: digest", want, () -> x.digest());
        Check.due("34: once more", want, () -> x.digest());
        Check.due("34: of another one that is the same", want, () -> fullFamily().digest());
    }

    private static long withWord(long start, TonguerootFamily x, int l, int m) {
        long d = start * 31 + x.length(l, m);
        for (int p = 0; p < x.length(l, m); p++) {
            d = d * 31 + x.soundAt(l, m, p);
        }
        d = (d * 31 + x.origin(l, m)) * 31 + x.changedBy(l, m);
        d = d * 31 + x.recalled(l, m);
        for (int p = 0; p < x.recalled(l, m); p++) {
            d = d * 31 + x.recalledAt(l, m, p);
        }
        return d * 31 + (x.looksLent(l, m) ? 1 : 0);
    }

    /** All questions, and all calls that throw, leave the digest as it was. */
    private static void nothingIsChanged() {
        long before = fullFamily().digest();
        for (int l = -1; l < 11; l++) {
            TonguerootFamily x = fullFamily();
            for (int n = -1; n < 13; n++) {
                int language = l;
                int number = n;
                Check.told(() -> x.swapped(language, number));
                Check.told(() -> x.without(language, number));
                Check.told(() -> x.withoutLoan(number));
                Check.told(() -> x.looksLent(language, number));
                Check.told(() -> x.recalledAt(language, number, 0));
                Check.told(() -> x.mainAnswer(language, number, 0));
            }
            Check.told(() -> x.language(0));
            Check.told(() -> x.loan(0, 0, 1, 0));
            Check.told(() -> x.law(9, 1, 0, 0, 0));
            Check.told(() -> x.unlaw(0));
            Check.told(() -> x.word(12));
            Check.told(() -> x.spell(16));
            Check.told(() -> x.setSound(16, 0));
            Check.due("nothing is changed", before, () -> x.digest());
        }
    }
}
