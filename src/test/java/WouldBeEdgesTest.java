import java.math.BigInteger;
import java.util.ArrayList;
import java.util.List;

/** The sentences of the promises 30 to 34 (what would be, and the checksum), each one with a test of its own. */
public final class WouldBeEdgesTest extends FamilyTools {
    public static void main(String[] args) {
        otherLaws();
        otherLoans();
        checksum();
        for (int promise = 30; promise <= 34; promise++) {
            Sentences.complete("Promise " + promise);
        }
        Check.end();
    }

    private static void say(int promise, String words, Runnable test) {
        Sentences.of("Promise " + promise, words, test);
    }

    private static void otherLaws() {
        say(30, "Returns for how many MEANINGS its WORD would be another one", WouldBeEdgesTest::swappedCounts);
        say(30, "if this LAW and the next one changed places", WouldBeEdgesTest::swappedWithTheNext);
        say(30, "the MOMENTS of LOANS as they are", WouldBeEdgesTest::swappedByMoments);
        say(30, "if there is no such LANGUAGE, or LAW", WouldBeEdgesTest::swappedOfNoLaw);
        say(30, "if it is the last one", WouldBeEdgesTest::swappedTheLast);
        say(31, "Returns for how many pairs of a MEANING and a LANGUAGE", WouldBeEdgesTest::withoutCounts);
        say(31, "the WORD would be another one, SOUND by SOUND, without it", WouldBeEdgesTest::withoutSoundBySound);
        say(31, "the MOMENTS of LOANS as they are, by the LAWS that are left", WouldBeEdgesTest::withoutByMoments);
        say(31, "if there is no such LANGUAGE, or LAW", WouldBeEdgesTest::withoutNoLaw);
    }

    private static void otherLoans() {
        say(32, "Returns for how many LANGUAGES the WORD for its MEANING would be another one", WouldBeEdgesTest::loanCounts);
        say(32, "SOUND by SOUND, without it", WouldBeEdgesTest::loanSoundBySound);
        say(32, "if there is no such LOAN", WouldBeEdgesTest::withoutNoLoan);
        say(33, "Returns whether its WORD looks as a LOAN", WouldBeEdgesTest::looksLent);
        say(33, "with the WORD that it would have without any LOAN at all, it is not the same", WouldBeEdgesTest::withoutAnyLoan);
        say(33, "false without a WORD either way", WouldBeEdgesTest::looksLentWithoutWord);
        say(33, "if there is no such LANGUAGE, or MEANING", WouldBeEdgesTest::looksLentOfNoWord);
    }

    private static void checksum() {
        say(34, "Computes a checksum.", WouldBeEdgesTest::nothingIsChanged);
        say(34, "A number d starts with 2677", WouldBeEdgesTest::firstNumbers);
        say(34, "which wraps around as a 64-bit integer", WouldBeEdgesTest::wrapsAround);
        say(34, "for each v in this order", WouldBeEdgesTest::inThisOrder);
        say(34, "Returns d.", WouldBeEdgesTest::sameStateSameNumber);
    }

    // ---- what the tests are made of

    /** A mother with the word 1 for all meanings, and nine daughters in a chain. */
    private static TonguerootFamily twelveInTen() {
        TonguerootFamily x = new TonguerootFamily();
        for (int meaning = 0; meaning < 12; meaning++) {
            put(x, meaning, 1);
        }
        for (int language = 1; language < 10; language++) {
            x.language(language - 1);
        }
        return x;
    }

    private static TonguerootFamily oneWord(int... sounds) {
        TonguerootFamily x = new TonguerootFamily();
        put(x, 0, sounds);
        x.language(0);
        return x;
    }

    private static TonguerootFamily lawsOf(int count) {
        TonguerootFamily x = oneWord(0);
        for (int law = 0; law < count; law++) {
            x.law(1, set(law), law + 1, 0, 0);
        }
        return x;
    }

    private static TonguerootFamily loansOf(int count) {
        TonguerootFamily x = lawsOf(1);
        for (int loan = 0; loan < count; loan++) {
            x.loan(0, 0, 1, 0);
        }
        return x;
    }

    // ---- 30 and 31

    private static void swappedCounts() {
        TonguerootFamily x = twelveInTen();
        x.law(9, set(1), 2, 0, 0);
        x.law(9, set(2), 3, 0, 0);
        Check.due("all of them", 12, () -> x.swapped(9, 0));
        x.word(0);
        Check.due("without a word nothing is another one", 11, () -> x.swapped(9, 0));
        x.law(9, set(2, 3), 4, 0, 0);
        Check.due("a later law makes them the same", 0, () -> x.swapped(9, 0));
        TonguerootFamily y = twelveInTen();
        y.law(1, set(1), 2, 0, 0);
        y.law(1, set(2), 3, 0, 0);
        Check.due("its own words alone, not its daughters'", 12, () -> y.swapped(1, 0));
        put(y, 11, 5);
        Check.due("not where neither law holds", 11, () -> y.swapped(1, 0));
        y.loan(0, 0, 1, 8);
        Check.due("not what is lent behind both", 10, () -> y.swapped(1, 0));
        TonguerootFamily z = oneWord(1, 2);
        z.law(1, set(1), -1, 0, 0);
        z.law(1, set(2), -1, 0, 0);
        Check.due("of two that would leave nothing the second one stays", 1, () -> z.swapped(1, 0));
    }

    private static void swappedWithTheNext() {
        TonguerootFamily x = oneWord(0);
        for (int law = 0; law < 8; law++) {
            x.law(1, set(law), law + 1, 0, 0);
        }
        for (int law = 0; law < 7; law++) {
            int each = law;
            Check.due("law " + law, 1, () -> x.swapped(1, each));
        }
        Check.due("nothing is changed", 8, () -> x.soundAt(1, 0, 0));
        TonguerootFamily y = oneWord(0);
        y.law(1, set(0), 1, 0, 0);
        y.law(1, set(9), 9, 0, 0);
        y.law(1, set(1), 2, 0, 0);
        y.law(1, set(9), 9, 0, 0);
        for (int law = 0; law < 3; law++) {
            int each = law;
            Check.due("with the next one alone: " + law, 0, () -> y.swapped(1, each));
        }
    }

    private static void swappedByMoments() {
        int[] due = {0, 1, 0, 0};
        for (int moment = 0; moment < due.length; moment++) {
            TonguerootFamily x = oneWord(1);
            x.law(1, set(1), 2, 0, 0);
            x.law(1, set(8), 9, 0, 0);
            x.loan(0, 0, 1, moment);
            int want = due[moment];
            Check.due("moment " + moment, want, () -> x.swapped(1, 0));
            Check.due("nothing is changed at " + moment, moment == 0 ? "2" : "1", () -> spelt(x, 1, 0));
        }
    }

    private static void swappedOfNoLaw() {
        takenAll(row(0, 6), () -> lawsOf(8), (x, law) -> x.swapped(1, law));
        refusedPlaces(row(-1, 8, LOW, HIGH), () -> lawsOf(8), (x, law) -> x.swapped(1, law));
        refusedPlaces(row(-1, 0, 1), () -> lawsOf(0), (x, law) -> x.swapped(1, law));
        refusedPlaces(row(-1, 0, 1), () -> lawsOf(2), (x, law) -> x.swapped(0, law));
        refusedPlaces(row(-1, 2, LOW, HIGH), () -> lawsOf(2), (x, language) -> x.swapped(language, 0));
        takenAll(row(1, 9), FamilyTools::fullest, (x, language) -> x.swapped(language, 6));
        refusedPlaces(row(-1, 0, 10), FamilyTools::fullest, (x, language) -> x.swapped(language, 7));
    }

    private static void swappedTheLast() {
        for (int count = 1; count <= 8; count++) {
            int each = count;
            refusedValue("of " + count, () -> lawsOf(each), x -> x.swapped(1, each - 1));
            refusedPlace("behind the last of " + count, () -> lawsOf(each), x -> x.swapped(1, each));
        }
        taken("the one ahead of it", () -> lawsOf(2), x -> x.swapped(1, 0));
    }

    private static void withoutCounts() {
        TonguerootFamily x = twelveInTen();
        x.law(1, set(1), 2, 0, 0);
        Check.due("twelve words of nine languages", 108, () -> x.without(1, 0));
        x.law(9, set(2), 1, 0, 0);
        Check.due("the last one has them back", 96, () -> x.without(1, 0));
        Check.due("without that", 12, () -> x.without(9, 0));
        x.word(0);
        Check.due("eleven words", 88, () -> x.without(1, 0));
        x.loan(11, 0, 5, 0);
        Check.due("lent from one that has it not", 84, () -> x.without(1, 0));
        TonguerootFamily y = lawsOf(8);
        for (int law = 0; law < 8; law++) {
            int each = law;
            Check.due("each law of eight: " + law, 1, () -> y.without(1, each));
        }
        Check.due("nothing is changed", 8, () -> y.laws(1));
    }

    private static void withoutSoundBySound() {
        TonguerootFamily x = oneWord(1, 2);
        x.law(1, set(8), 9, 0, 0);
        x.law(1, set(1), 1, 0, 0);
        x.law(1, set(1), -1, 0, 0);
        x.law(1, set(2), 3, 0, 0);
        Check.due("it holds for none", 0, () -> x.without(1, 0));
        Check.due("it makes it the same", 0, () -> x.without(1, 1));
        Check.due("it makes it shorter", 1, () -> x.without(1, 2));
        Check.due("it makes one sound another one", 1, () -> x.without(1, 3));
        x.law(1, ANY, 5, 0, 0);
        Check.due("the same sounds, but fewer", 1, () -> x.without(1, 2));
        Check.due("it is made the same", 0, () -> x.without(1, 3));
        Check.due("changed by others", 28, () -> x.changedBy(1, 0));
        x.language(0);
        x.loan(0, 1, 2, 0);
        Check.due("lent on", 2, () -> x.without(1, 2));
        x.loan(0, 0, 2, 0);
        Check.due("lent on, and covered", 1, () -> x.without(1, 2));
    }

    private static void withoutByMoments() {
        TonguerootFamily x = oneWord(1);
        x.law(1, set(9), 9, 0, 0);
        x.law(1, set(1), 2, 0, 0);
        x.loan(0, 0, 1, 1);
        Check.due("the loan comes behind the law that is left", 1, () -> x.without(1, 0));
        Check.due("the law itself", 1, () -> x.without(1, 1));
        Check.due("nothing is changed", "2", () -> spelt(x, 1, 0));
        TonguerootFamily y = lawsOf(8);
        y.loan(0, 0, 1, 8);
        for (int law = 0; law < 8; law++) {
            int each = law;
            Check.due("behind all that are left: " + law, 0, () -> y.without(1, each));
        }
        TonguerootFamily z = oneWord(1);
        z.law(1, set(1), 2, 0, 0);
        z.loan(0, 0, 1, 8);
        z.loan(0, 0, 1, 0);
        Check.due("of moments as told the later one stands", 0, () -> z.without(1, 0));
        TonguerootFamily w = twelveInTen();
        w.law(1, set(5), 6, 0, 0);
        w.law(1, set(1), 2, 0, 0);
        w.loan(0, 0, 1, 1);
        Check.due("in all of its daughters", 9, () -> w.without(1, 0));
    }

    private static void withoutNoLaw() {
        takenAll(row(0, 7), () -> lawsOf(8), (x, law) -> x.without(1, law));
        refusedPlaces(row(-1, 8, LOW, HIGH), () -> lawsOf(8), (x, law) -> x.without(1, law));
        taken("the only one", () -> lawsOf(1), x -> x.without(1, 0));
        refusedPlaces(row(-1, 1), () -> lawsOf(1), (x, law) -> x.without(1, law));
        refusedPlaces(row(-1, 0, 1), () -> lawsOf(0), (x, law) -> x.without(1, law));
        refusedPlaces(row(-1, 0, 2, LOW, HIGH), () -> lawsOf(8), (x, language) -> x.without(language, 0));
        takenAll(row(1, 9), FamilyTools::fullest, (x, language) -> x.without(language, 7));
        refusedPlaces(row(-1, 0, 10), FamilyTools::fullest, (x, language) -> x.without(language, 0));
    }

    // ---- 32 and 33

    private static void loanCounts() {
        TonguerootFamily x = twelveInTen();
        x.law(1, set(1), 2, 0, 0);
        x.loan(11, 0, 1, 1);
        Check.due("all daughters", 9, () -> x.withoutLoan(0));
        x.law(9, set(2), 1, 0, 0);
        Check.due("all but the last one", 8, () -> x.withoutLoan(0));
        x.loan(11, 1, 5, 0);
        Check.due("one more, and the same word", 0, () -> x.withoutLoan(1));
        x.loan(11, 0, 5, 1);
        Check.due("the first one is covered from 5 on", 4, () -> x.withoutLoan(0));
        Check.due("the second one is covered", 0, () -> x.withoutLoan(1));
        x.loan(10, 8, 9, 0);
        Check.due("another meaning, and the same word", 0, () -> x.withoutLoan(3));
        Check.due("the origin stays", 2, () -> x.origin(9, 11));
        Check.due("so do the loans", 4, () -> x.loans());
        TonguerootFamily y = twelveInTen();
        y.law(1, set(1), 2, 0, 0);
        for (int loan = 0; loan < 12; loan++) {
            y.loan(loan, 0, 2, 8);
        }
        Check.due("the first one of twelve", 8, () -> y.withoutLoan(0));
        Check.due("the last one of twelve", 8, () -> y.withoutLoan(11));
    }

    private static void loanSoundBySound() {
        TonguerootFamily x = oneWord(1, 2);
        x.law(1, set(2), -1, 0, 0);
        x.loan(0, 0, 1, 1);
        Check.due("it would be shorter", 1, () -> x.withoutLoan(0));
        x.loan(0, 0, 1, 8);
        Check.due("the other one brings the same", 0, () -> x.withoutLoan(0));
        Check.due("and the other way round", 0, () -> x.withoutLoan(1));
        TonguerootFamily y = oneWord(1);
        y.loan(0, 0, 1, 0);
        Check.due("of another origin, but the same", 0, () -> y.withoutLoan(0));
        y.word(0);
        Check.due("without words", 0, () -> y.withoutLoan(0));
    }

    private static void withoutNoLoan() {
        for (int count = 1; count <= 12; count++) {
            int each = count;
            boundsOfPlace(0, count - 1, () -> loansOf(each), (x, loan) -> x.withoutLoan(loan));
        }
        refusedPlaces(row(-1, 0, 1, LOW, HIGH), TonguerootFamily::new, (x, loan) -> x.withoutLoan(loan));
        boundsOfPlace(0, 11, FamilyTools::fullest, (x, loan) -> x.withoutLoan(loan));
    }

    private static void looksLent() {
        TonguerootFamily x = twelveInTen();
        x.law(1, set(1), 2, 0, 0);
        x.loan(11, 0, 1, 8);
        for (int language = 1; language < 10; language++) {
            int each = language;
            Check.due("in " + language, true, () -> x.looksLent(each, 11));
            Check.due("not for another meaning in " + language, false, () -> x.looksLent(each, 10));
        }
        Check.due("never in the mother", false, () -> x.looksLent(0, 11));
        x.law(9, set(1), 2, 0, 0);
        Check.due("by a law it is the same again", false, () -> x.looksLent(9, 11));
        Check.due("its origin stays", 0, () -> x.origin(9, 11));
    }

    private static void withoutAnyLoan() {
        TonguerootFamily x = oneWord(1, 2);
        x.law(1, set(2), -1, 0, 0);
        x.language(0);
        Check.due("no loans", false, () -> x.looksLent(1, 0));
        x.loan(0, 1, 2, 0);
        Check.due("shorter", true, () -> x.looksLent(2, 0));
        x.loan(0, 0, 1, 1);
        Check.due("the one from which it comes has another one by a loan", false, () -> x.looksLent(2, 0));
        Check.due("that one has it so", true, () -> x.looksLent(1, 0));
        x.law(1, set(2), 3, 0, 0);
        Check.due("a law goes over it", true, () -> x.looksLent(2, 0));
        x.loan(0, 0, 2, 0);
        Check.due("two loans, and the same word", false, () -> x.looksLent(2, 0));
        Check.due("lent all the same", 2, () -> x.origin(2, 0));
        TonguerootFamily y = new TonguerootFamily();
        put(y, 0, 1, 2);
        Check.due("before any daughter", false, () -> y.looksLent(0, 0));
        withoutAnyLoanFollowsEachChange();
    }

    /** Language 2 has always what is lent from the mother to it; what it would have is what changes. */
    private static void withoutAnyLoanFollowsEachChange() {
        TonguerootFamily x = oneWord(1);
        x.language(1);
        x.loan(0, 0, 2, 8);
        Check.due("it would have the same", false, () -> x.looksLent(2, 0));
        x.law(1, set(1), 16, 0, 0);
        Check.due("a law without effect", false, () -> x.looksLent(2, 0));
        x.setSound(3, 1);
        Check.due("features", true, () -> x.looksLent(2, 0));
        x.setSound(3, 0);
        Check.due("and none again", false, () -> x.looksLent(2, 0));
        x.law(1, set(1), 2, 0, EDGE);
        Check.due("a law", true, () -> x.looksLent(2, 0));
        x.unlaw(1);
        Check.due("no such law", false, () -> x.looksLent(2, 0));
        x.law(2, set(7), 2, 0, EDGE);
        x.spell(7);
        Check.due("one sound more", true, () -> x.looksLent(2, 0));
        x.word(0);
        Check.due("no word", false, () -> x.looksLent(2, 0));
        x.spell(8);
        Check.due("another word", false, () -> x.looksLent(2, 0));
    }

    private static void looksLentWithoutWord() {
        TonguerootFamily x = oneWord();
        x.law(1, set(1), 2, 0, 0);
        x.loan(0, 0, 1, 8);
        Check.due("an open word without sounds", false, () -> x.looksLent(1, 0));
        Check.due("no word", false, () -> x.looksLent(1, 11));
        x.spell(1);
        Check.due("a word", true, () -> x.looksLent(1, 0));
        x.word(0);
        Check.due("none again", false, () -> x.looksLent(1, 0));
    }

    private static void looksLentOfNoWord() {
        boundsOfLanguage((x, language) -> x.looksLent(language, 11));
        boundsOfPlace(0, 11, TonguerootFamily::new, (x, meaning) -> x.looksLent(0, meaning));
        boundsOfPlace(0, 11, FamilyTools::three, (x, meaning) -> x.looksLent(2, meaning));
        boundsOfPlace(0, 11, FamilyTools::fullest, (x, meaning) -> x.looksLent(9, meaning));
        refusedPlace("neither", FamilyTools::three, x -> x.looksLent(3, 12));
    }

    // ---- 34

    private static TonguerootFamily bare() {
        return new TonguerootFamily();
    }

    private static void nothingIsChanged() {
        for (int each = 0; each < 3; each++) {
            Maker maker = makers().get(each);
            TonguerootFamily x = maker.make();
            Check.due("it can be asked twice", x.digest(), () -> x.digest());
            for (int law = 0; law < 8; law++) {
                int number = law;
                Check.told(() -> x.swapped(1, number));
                Check.told(() -> x.without(2, number));
                Check.told(() -> x.withoutLoan(number));
                Check.told(() -> x.looksLent(2, number));
            }
            Check.due("what would be leaves all as it is", story(maker.make()), () -> story(x));
        }
    }

    private static List<Maker> makers() {
        return List.of(FamilyTools::three, FamilyTools::fullFamily, FamilyTools::fullest, WouldBeEdgesTest::bare,
            WouldBeEdgesTest::twelveInTen, () -> lawsOf(8), () -> loansOf(12));
    }

    /** All that goes into the checksum; each family answers some of that alone, so none is asked too often. */
    private static List<Integer> values(Maker maker) {
        List<Integer> row = new ArrayList<>();
        int languages = maker.make().languages();
        row.add(languages);
        row.add(maker.make().loans());
        for (int language = 0; language < languages; language++) {
            TonguerootFamily x = maker.make();
            row.addAll(List.of(x.laws(language), x.wealth(language), x.alike(language), x.soundsOf(language),
                x.nearest(language), x.recalledWell(language)));
            for (int meaning = 0; meaning < 12; meaning++) {
                addWord(row, maker.make(), language, meaning);
            }
        }
        for (int smaller = 0; smaller < languages; smaller++) {
            for (int greater = smaller + 1; greater < languages; greater++) {
                TonguerootFamily x = maker.make();
                for (int meaning = 0; meaning < 12; meaning++) {
                    row.add(x.cost(meaning, smaller, greater));
                }
            }
        }
        return row;
    }

    private static void addWord(List<Integer> row, TonguerootFamily x, int language, int meaning) {
        int length = x.length(language, meaning);
        row.add(length);
        for (int place = 0; place < length; place++) {
            row.add(x.soundAt(language, meaning, place));
        }
        row.add(x.origin(language, meaning));
        row.add(x.changedBy(language, meaning));
        int recalled = x.recalled(language, meaning);
        row.add(recalled);
        for (int place = 0; place < recalled; place++) {
            row.add(x.recalledAt(language, meaning, place));
        }
        row.add(x.looksLent(language, meaning) ? 1 : 0);
    }

    /** The checksum as it would be if nothing wrapped around. */
    private static BigInteger exact(List<Integer> values) {
        BigInteger d = BigInteger.valueOf(2677);
        for (int value : values) {
            d = d.multiply(BigInteger.valueOf(31)).add(BigInteger.valueOf(value));
        }
        return d;
    }

    /** With the mother alone there are 2 numbers, 6 of hers, and 5 for each of 12 meanings; all are 0 but for some. */
    private static void firstNumbers() {
        long d = 2677;
        for (int value : row(1, 0, 0, 0, 0, 0, -1, 0)) {
            d = d * 31 + value;
        }
        for (int meaning = 0; meaning < 12; meaning++) {
            for (int value : row(0, -1, 0, 0, 0)) {
                d = d * 31 + value;
            }
        }
        long want = d;
        Check.due("a new object", want, () -> new TonguerootFamily().digest());
        Check.due("as it is known", 8082643768937455733L, () -> new TonguerootFamily().digest());
    }

    private static void wrapsAround() {
        boolean below = false;
        boolean above = false;
        for (Maker maker : makers()) {
            BigInteger exact = exact(values(maker));
            Check.due("it is too great for 64 bits", true, () -> exact.bitLength() > 64);
            Check.due("its lowest 64 bits", exact.longValue(), () -> maker.make().digest());
            below |= maker.make().digest() < 0;
            above |= maker.make().digest() > 0;
        }
        boolean both = below && above;
        Check.due("below 0, and above", true, () -> both);
    }

    private static void inThisOrder() {
        for (Maker maker : makers()) {
            long d = 2677;
            for (int value : values(maker)) {
                d = d * 31 + value;
            }
            long want = d;
            Check.due("all values", want, () -> maker.make().digest());
        }
        smallFamilyByHand();
    }

    /** The mother has 1 2 for meaning 0, daughter 1 has 3 2 by its law, and that is lent to daughter 2. */
    private static void smallFamilyByHand() {
        TonguerootFamily x = oneWord(1, 2);
        x.law(1, set(1), 3, 0, 0);
        x.language(0);
        x.loan(0, 1, 2, 0);
        long d = 2677;
        for (int value : row(3, 1)) {
            d = d * 31 + value;
        }
        d = mixed(d, row(0, 1, 0, 6, 1, 0), row(2, 1, 2, -1, 0, 2, 3, 2, 0));
        d = mixed(d, row(1, 1, 0, 12, 2, 0), row(2, 3, 2, -1, 1, 0, 0));
        d = mixed(d, row(0, 1, 0, 12, 1, 0), row(2, 3, 2, 0, 0, 0, 1));
        for (int cost : row(1, 1, 0)) {
            d = d * 31 + cost;
            for (int meaning = 1; meaning < 12; meaning++) {
                d = d * 31 - 1;
            }
        }
        long want = d;
        Check.due("three languages, one word, one loan", want, () -> x.digest());
    }

    private static long mixed(long start, int[] ofTheLanguage, int[] ofTheWord) {
        long d = start;
        for (int value : ofTheLanguage) {
            d = d * 31 + value;
        }
        for (int value : ofTheWord) {
            d = d * 31 + value;
        }
        for (int meaning = 1; meaning < 12; meaning++) {
            for (int value : row(0, -1, 0, 0, 0)) {
                d = d * 31 + value;
            }
        }
        return d;
    }

    private static void sameStateSameNumber() {
        for (Maker maker : makers()) {
            Check.due("made in the same way", maker.make().digest(), () -> maker.make().digest());
        }
        TonguerootFamily x = fullest();
        long before = x.digest();
        x.unlaw(9);
        Check.due("one law less", false, () -> x.digest() == before);
        TonguerootFamily y = lawsOf(7);
        long seven = y.digest();
        y.law(1, set(15), 3, 0, 0);
        y.unlaw(1);
        Check.due("there and back", seven, () -> y.digest());
        y.setSound(0, 63);
        Check.due("features go into the costs", false, () -> y.digest() == seven);
        y.setSound(0, 0);
        Check.due("and out of them", seven, () -> y.digest());
    }
}
