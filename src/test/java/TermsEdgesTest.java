/** The sentences of the document's "Terms" that name a boundary, each one with a test of its own. */
public final class TermsEdgesTest extends FamilyTools {
    private static final int CALLS = 512;

    public static void main(String[] args) {
        Sentences.of("What it is", "A builder of families of languages.", TermsEdgesTest::severalObjects);
        Sentences.of("What it is", "at most 512 calls after it has been made", TermsEdgesTest::allCalls);
        sounds();
        laws();
        languages();
        loans();
        besideEachOther();
        lostLanguage();
        exceptions();
        Sentences.complete("What it is");
        Sentences.complete("Terms");
        Check.end();
    }

    private static void say(String words, Runnable test) {
        Sentences.of("Terms", words, test);
    }

    private static void sounds() {
        say("All numbers are whole, if nothing else is said.", TermsEdgesTest::wholeNumbers);
        say("There are 16 SOUNDS, 0 to 15", TermsEdgesTest::sixteenSounds);
        say("each has a set of FEATURES, 0 to 5", TermsEdgesTest::sixFeatures);
        say("the sum of 1 << f for each of them", TermsEdgesTest::sumsOfFeatures);
        say("none at first", TermsEdgesTest::noFeaturesAtFirst);
        say("Sets of SOUNDS are likewise.", TermsEdgesTest::setsOfSounds);
        say("A WORD is a row of 0 to 10 SOUNDS.", TermsEdgesTest::noneToTenSounds);
    }

    private static void laws() {
        say("a set, of one at least", TermsEdgesTest::oneSoundAtLeast);
        say("what they become: one SOUND", TermsEdgesTest::becomesOneSound);
        say("or nothing (-1)", TermsEdgesTest::becomesNothing);
        say("the SOUND with the smallest number", TermsEdgesTest::turnedToTheSmallest);
        say("just the FEATURES of the old one but one FEATURE f, which is turned", TermsEdgesTest::justOneFeatureTurned);
        say("told as 16 + f", TermsEdgesTest::toldAsSixteenMore);
        say("without such a SOUND it stays", TermsEdgesTest::staysWithoutSuchASound);
        say("AHEAD, a set of SOUNDS of which one must stand right ahead of it", TermsEdgesTest::rightAhead);
        say("and BEHIND likewise", TermsEdgesTest::rightBehind);
        say("0 asks nothing", TermsEdgesTest::zeroAsksNothing);
        say("65536 (1 << 16) in such a set means that it can also be the edge", TermsEdgesTest::edgeOfTheWord);
        say("all its SOUNDS for which it holds become what it tells at once", TermsEdgesTest::allAtOnce);
        say("by what stands beside them ahead of the LAW", TermsEdgesTest::asItStoodBefore);
        say("what becomes nothing is left out", TermsEdgesTest::leftOut);
        say("A WORD that would have no SOUNDS then stays as it was.", TermsEdgesTest::neverWithoutSounds);
    }

    private static void languages() {
        say("At most 10 LANGUAGES, numbered from 0", TermsEdgesTest::tenLanguages);
        say("0 is the MOTHER, there at the beginning", TermsEdgesTest::motherAtTheBeginning);
        say("each other one has a PARENT, which has a smaller number", TermsEdgesTest::smallerParents);
        say("a row of at most 8 LAWS, numbered from 0 in each", TermsEdgesTest::eightLaws);
        say("the MOTHER has none", TermsEdgesTest::noLawsOfTheMother);
        say("There are 12 MEANINGS, 0 to 11.", TermsEdgesTest::twelveMeanings);
        say("The MOTHER has a WORD for some of them.", TermsEdgesTest::wordsForSome);
        say("A LANGUAGE has a WORD for a MEANING, if its PARENT has", TermsEdgesTest::wordIfTheParentHas);
        say("what becomes of that by its LAWS, in order", TermsEdgesTest::lawsInOrder);
    }

    private static void loans() {
        say("At most 12 LOANS, numbered from 0", TermsEdgesTest::twelveLoans);
        say("from a LANGUAGE to another one (not the MOTHER), which has a greater number", TermsEdgesTest::toAGreaterOne);
        say("at a MOMENT m, 0 to 8", TermsEdgesTest::nineMoments);
        say("behind the first m LAWS of that", TermsEdgesTest::behindTheFirstLaws);
        say("all of them, if there are fewer", TermsEdgesTest::fewerLawsThanTheMoment);
        say("behind all of its own LAWS", TermsEdgesTest::behindTheLawsOfTheFirst);
        say("if it has none, nothing happens", TermsEdgesTest::nothingToLend);
        say("whatever there was", TermsEdgesTest::whateverThereWas);
        say("the other LAWS go over it", TermsEdgesTest::otherLawsGoOverIt);
        say("LOANS of the same MEANING to the same LANGUAGE come by their MOMENTS", TermsEdgesTest::byMoments);
        say("as told, also where there are fewer LAWS", TermsEdgesTest::momentsAsTold);
        say("of one MOMENT by their numbers", TermsEdgesTest::ofOneMoment);
        say("is the LOAN by which it came last, on its way to the LANGUAGE", TermsEdgesTest::lastLoanOnTheWay);
        say("or none (-1), if it is as the MOTHER gave it", TermsEdgesTest::noLoanOnTheWay);
        say("Two WORDS for one MEANING are KIN, if their ORIGINS are the same.", TermsEdgesTest::kinByOrigin);
    }

    private static void besideEachOther() {
        say("not two gaps", TermsEdgesTest::mostColumns);
        say("read without gaps the columns are the WORDS", TermsEdgesTest::columnsReadAsWords);
        say("The cost of two SOUNDS is in how many FEATURES they differ", TermsEdgesTest::costByFeatures);
        say("and 1 more, if they are not the same SOUND", TermsEdgesTest::oneMoreIfNotTheSame);
        say("of a SOUND and a gap it is 4", TermsEdgesTest::gapCostsFour);
        say("Of the alignments with the least cost that one is taken", TermsEdgesTest::leastCostGoesAhead);
        say("from the first column on, as long as there is a choice", TermsEdgesTest::fromTheFirstColumnOn);
        say("has a column with two SOUNDS, otherwise", TermsEdgesTest::twoSoundsComeFirst);
        say("otherwise one with a gap in the second WORD, otherwise one in the first", TermsEdgesTest::gapInTheSecondComesNext);
        say("over all MEANINGS for which both have WORDS that are KIN", TermsEdgesTest::answersOfKinAlone);
        say("(-1 for a gap)", TermsEdgesTest::answersOfGaps);
        say("over all MEANINGS for which both have WORDS (KIN or not)", TermsEdgesTest::farOfAllMeanings);
        say("divided by how many these are, not cut", TermsEdgesTest::farIsNotCut);
    }

    private static void lostLanguage() {
        say("DAUGHTERS (the LANGUAGES whose PARENT it is)", TermsEdgesTest::daughtersAlone);
        say("that have WORDS for it that are KIN to its own", TermsEdgesTest::kinDaughtersAlone);
        say("the first of them (with the smallest number) is aligned, as the first one", TermsEdgesTest::firstDaughterAligned);
        say("the votes are that SOUND itself", TermsEdgesTest::oneVoteForItself);
        say("what stands in its column (a gap, too)", TermsEdgesTest::gapsVoteToo);
        say("what has the most votes is taken", TermsEdgesTest::mostVotes);
        say("of several a SOUND ahead of a gap", TermsEdgesTest::soundAheadOfGap);
        say("the smaller SOUND first", TermsEdgesTest::smallerSoundFirst);
        say("Gaps are left out.", TermsEdgesTest::gapsAreLeftOut);
        say("Without such DAUGHTERS there is nothing.", TermsEdgesTest::nothingWithoutDaughters);
    }

    private static void exceptions() {
        say("A method that throws an exception changes nothing.", TermsEdgesTest::refusedCallsChangeNothing);
        say("If several exceptions apply, the one that is named first is thrown.", TermsEdgesTest::firstNamedException);
    }

    // ---- what it is

    private static void severalObjects() {
        TonguerootFamily x = new TonguerootFamily();
        TonguerootFamily y = three();
        Check.due("another object's languages", 1, () -> x.languages());
        Check.due("another object's words", 0, () -> x.wealth(0));
        Check.noState("another object's open word", () -> x.spell(0));
        Check.due("the other one has its own", 3, () -> y.languages());
    }

    private static void allCalls() {
        TonguerootFamily x = three();
        int made = 10;
        for (int call = made + 1; call < CALLS; call++) {
            if (call % 2 == 1) {
                x.law(2, set(5), 6, 0, 0);
            } else {
                x.unlaw(2);
            }
        }
        Check.due("the 512th call", 6, () -> x.soundAt(2, 0, 0));
    }

    private static void wholeNumbers() {
        TonguerootFamily x = new TonguerootFamily();
        put(x, 0, 1);
        put(x, 1, 2);
        x.language(0);
        x.law(1, set(1), 2, 0, 0);
        Check.due("but FAR, which is not cut", 0.5, () -> x.far(0, 1));
        Check.due("a cost", 1, () -> x.cost(0, 0, 1));
    }

    // ---- 1: sounds

    private static void sixteenSounds() {
        TonguerootFamily x = new TonguerootFamily();
        x.word(0);
        for (int sound = 0; sound < 10; sound++) {
            int each = sound;
            Check.due("spelt: " + sound, sound + 1, () -> x.spell(each));
        }
        x.word(1);
        for (int sound = 10; sound < 16; sound++) {
            int each = sound;
            Check.due("spelt: " + sound, sound - 9, () -> x.spell(each));
        }
        Check.due("the first ten", "0 1 2 3 4 5 6 7 8 9", () -> spelt(x, 0, 0));
        Check.due("the others", "10 11 12 13 14 15", () -> spelt(x, 0, 1));
        boundsOfValue(0, 15, FamilyTools::three, (y, sound) -> y.spell(sound));
        boundsOfValue(0, 15, FamilyTools::three, (y, sound) -> y.setSound(sound, 9));
    }

    private static void sixFeatures() {
        boundsOfValue(0, 63, FamilyTools::three, (x, features) -> x.setSound(0, features));
        boundsOfValue(0, 63, FamilyTools::three, (x, features) -> x.setSound(15, features));
        TonguerootFamily x = new TonguerootFamily();
        put(x, 0, 0);
        x.language(0);
        x.law(1, set(0), 1, 0, 0);
        x.setSound(1, 63);
        Check.due("they differ in six", 7, () -> x.cost(0, 0, 1));
    }

    private static void sumsOfFeatures() {
        TonguerootFamily x = new TonguerootFamily();
        put(x, 0, 0);
        x.language(0);
        for (int feature = 0; feature < 6; feature++) {
            int sound = feature + 1;
            x.setSound(sound, 1 << feature);
            x.law(1, set(0), 16 + feature, 0, 0);
            Check.due("feature " + feature, Integer.toString(sound), () -> spelt(x, 1, 0));
            x.unlaw(1);
        }
    }

    private static void noFeaturesAtFirst() {
        TonguerootFamily x = new TonguerootFamily();
        for (int sound = 0; sound < 16; sound++) {
            int each = sound;
            Check.due("sound " + sound, 0, () -> x.setSound(each, 0));
        }
        TonguerootFamily y = new TonguerootFamily();
        put(y, 0, 0, 15);
        y.language(0);
        y.law(1, set(0, 15), 7, 0, 0);
        Check.due("no two differ in any", 2, () -> y.cost(0, 0, 1));
        y.unlaw(1);
        y.law(1, ANY, 16, 0, 0);
        Check.due("none has any", "0 15", () -> spelt(y, 1, 0));
    }

    private static void setsOfSounds() {
        int[] word = row(0, 1, 14, 15);
        Check.due("sound 0 alone", "7 1 14 15", () -> after(word, 1, 7, 0, 0));
        Check.due("sound 1 alone", "0 7 14 15", () -> after(word, 2, 7, 0, 0));
        Check.due("sound 15 alone", "0 1 14 7", () -> after(word, 32768, 7, 0, 0));
        Check.due("the sum of two", "7 1 14 7", () -> after(word, 32769, 7, 0, 0));
        Check.due("all of them", "7 7 7 7", () -> after(word, 65535, 7, 0, 0));
        Check.due("all but 15", "7 7 7 15", () -> after(word, 32767, 7, 0, 0));
        Check.due("all but 0", "0 7 7 7", () -> after(word, 65534, 7, 0, 0));
        TonguerootFamily x = new TonguerootFamily();
        put(x, 4, word);
        Check.due("as an answer, too", 1 + 2 + 16384 + 32768, () -> x.soundsOf(0));
    }

    private static void noneToTenSounds() {
        TonguerootFamily x = new TonguerootFamily();
        x.word(0);
        x.language(0);
        Check.due("none", 0, () -> x.length(0, 0));
        for (int count = 1; count <= 10; count++) {
            int each = count;
            Check.due("one more", count, () -> x.spell(each));
            Check.due("so many", count, () -> x.length(0, 0));
            Check.due("so many in a daughter", count, () -> x.length(1, 0));
        }
        Check.noState("an eleventh one", () -> x.spell(0));
        Check.due("ten stay", 10, () -> x.length(0, 0));
        Check.due("the tenth stays", 10, () -> x.soundAt(1, 0, 9));
        Check.noPlace("no eleventh one", () -> x.soundAt(0, 0, 10));
    }

    // ---- 1: laws

    private static void oneSoundAtLeast() {
        boundsOfValue(1, 65535, FamilyTools::three, (x, sounds) -> x.law(1, sounds, 7, 0, 0));
        boundsOfValue(1, 65535, FamilyTools::three, (x, sounds) -> x.law(2, sounds, -1, 131071, 131071));
        Check.due("one", "7", () -> after(row(0), 1, 7, 0, 0));
    }

    private static void becomesOneSound() {
        int[] word = row(3, 0, 15);
        Check.due("the first one", "0 0 15", () -> after(word, set(3), 0, 0, 0));
        Check.due("the last one", "15 0 15", () -> after(word, set(3), 15, 0, 0));
        Check.due("itself", "3 0 15", () -> after(word, set(3), 3, 0, 0));
        boundsOfValue(-1, 21, FamilyTools::three, (x, becomes) -> x.law(2, 1, becomes, 0, 0));
    }

    private static void becomesNothing() {
        Check.due("sound 0", "3 15", () -> after(row(3, 0, 15), set(0), -1, 0, 0));
        Check.due("sound 15", "3 0", () -> after(row(3, 0, 15), set(15), -1, 0, 0));
        refusedValue("-2", FamilyTools::three, x -> x.law(2, 1, -2, 0, 0));
    }

    /** What a law that turns a feature makes of sound 5, which has the features 6 (1 and 2). */
    private static String turned(int feature, int[] sounds, int[] features) {
        TonguerootFamily x = new TonguerootFamily();
        for (int sound = 0; sound < 16; sound++) {
            x.setSound(sound, 63);
        }
        x.setSound(5, 6);
        for (int each = 0; each < sounds.length; each++) {
            x.setSound(sounds[each], features[each]);
        }
        put(x, 0, 5);
        x.language(0);
        x.law(1, set(5), 16 + feature, 0, 0);
        return spelt(x, 1, 0);
    }

    private static void turnedToTheSmallest() {
        Check.due("of three", "4", () -> turned(0, row(15, 4, 6), row(7, 7, 7)));
        Check.due("sound 0", "0", () -> turned(0, row(15, 0, 4), row(7, 7, 7)));
        Check.due("of two greater ones", "14", () -> turned(0, row(15, 14), row(7, 7)));
        Check.due("sound 15 alone", "15", () -> turned(0, row(15), row(7)));
    }

    private static void justOneFeatureTurned() {
        Check.due("it had it not", "8", () -> turned(0, row(8), row(7)));
        Check.due("it had it", "8", () -> turned(1, row(8), row(4)));
        Check.due("the last feature", "8", () -> turned(5, row(8), row(38)));
        Check.due("it has more than these", "5", () -> turned(0, row(8), row(15)));
        Check.due("it has less than these", "5", () -> turned(0, row(8), row(3)));
        Check.due("it has that one alone", "5", () -> turned(0, row(8), row(1)));
        Check.due("another feature is turned", "5", () -> turned(0, row(8), row(14)));
        Check.due("the old features are no such ones", "5", () -> turned(0, row(4, 8), row(6, 6)));
    }

    private static void toldAsSixteenMore() {
        Check.due("16, feature 0", "8", () -> turned(0, row(8, 9), row(7, 38)));
        Check.due("21, feature 5", "9", () -> turned(5, row(8, 9), row(7, 38)));
        Check.due("15 is a sound", "15", () -> after(row(5), set(5), 15, 0, 0));
        taken("16", FamilyTools::three, x -> x.law(1, 1, 16, 0, 0));
        taken("21", FamilyTools::three, x -> x.law(1, 1, 21, 0, 0));
        refusedValue("22", FamilyTools::three, x -> x.law(1, 1, 22, 0, 0));
    }

    private static void staysWithoutSuchASound() {
        for (int feature = 0; feature < 6; feature++) {
            int each = feature;
            Check.due("feature " + feature, "5", () -> turned(each, row(), row()));
        }
        TonguerootFamily x = new TonguerootFamily();
        put(x, 0, 5, 5);
        x.language(0);
        x.law(1, set(5), 21, 0, 0);
        Check.due("and no law changed it", 0, () -> x.changedBy(1, 0));
    }

    private static void rightAhead() {
        Check.due("it stands there", "2 9", () -> after(row(2, 3), set(3), 9, set(2), 0));
        Check.due("one of several", "2 9", () -> after(row(2, 3), set(3), 9, set(2, 7), 0));
        Check.due("another one stands there", "4 3", () -> after(row(4, 3), set(3), 9, set(2), 0));
        Check.due("it stands farther ahead", "2 4 3", () -> after(row(2, 4, 3), set(3), 9, set(2), 0));
        Check.due("it stands behind", "3 2", () -> after(row(3, 2), set(3), 9, set(2), 0));
        Check.due("nothing stands there", "3", () -> after(row(3), set(3), 9, ANY, 0));
        Check.due("sound 0", "0 9", () -> after(row(0, 3), set(3), 9, set(0), 0));
        Check.due("sound 15", "15 9", () -> after(row(15, 3), set(3), 9, set(15), 0));
        Check.due("at the tenth place", "2 2 2 2 2 2 2 2 2 9",
            () -> after(row(2, 2, 2, 2, 2, 2, 2, 2, 2, 3), set(3), 9, set(2), 0));
        boundsOfValue(0, 131071, FamilyTools::three, (x, ahead) -> x.law(1, 1, 7, ahead, 0));
    }

    private static void rightBehind() {
        Check.due("it stands there", "9 2", () -> after(row(3, 2), set(3), 9, 0, set(2)));
        Check.due("one of several", "9 2", () -> after(row(3, 2), set(3), 9, 0, set(2, 7)));
        Check.due("another one stands there", "3 4", () -> after(row(3, 4), set(3), 9, 0, set(2)));
        Check.due("it stands farther behind", "3 4 2", () -> after(row(3, 4, 2), set(3), 9, 0, set(2)));
        Check.due("it stands ahead", "2 3", () -> after(row(2, 3), set(3), 9, 0, set(2)));
        Check.due("nothing stands there", "3", () -> after(row(3), set(3), 9, 0, ANY));
        Check.due("sound 0", "9 0", () -> after(row(3, 0), set(3), 9, 0, set(0)));
        Check.due("sound 15", "9 15", () -> after(row(3, 15), set(3), 9, 0, set(15)));
        Check.due("at the first of ten places", "9 2 2 2 2 2 2 2 2 2",
            () -> after(row(3, 2, 2, 2, 2, 2, 2, 2, 2, 2), set(3), 9, 0, set(2)));
        Check.due("both are asked", "2 3 3 9 4", () -> after(row(2, 3, 3, 3, 4), set(3), 9, set(3), set(4)));
        boundsOfValue(0, 131071, FamilyTools::three, (x, behind) -> x.law(1, 1, 7, 0, behind));
    }

    private static void zeroAsksNothing() {
        Check.due("at the edges, too", "9 9 9", () -> after(row(3, 3, 3), set(3), 9, 0, 0));
        Check.due("in a word of one", "9", () -> after(row(3), set(3), 9, 0, 0));
        Check.due("ahead alone is asked", "3 9 9", () -> after(row(3, 3, 3), set(3), 9, set(3), 0));
        Check.due("behind alone is asked", "9 9 3", () -> after(row(3, 3, 3), set(3), 9, 0, set(3)));
    }

    private static void edgeOfTheWord() {
        int[] word = row(3, 3, 3);
        Check.due("the edge ahead alone", "9 3 3", () -> after(word, set(3), 9, EDGE, 0));
        Check.due("the edge behind alone", "3 3 9", () -> after(word, set(3), 9, 0, EDGE));
        Check.due("both, in a longer word", "3 3 3", () -> after(word, set(3), 9, EDGE, EDGE));
        Check.due("both, in a word of one", "9", () -> after(row(3), set(3), 9, EDGE, EDGE));
        Check.due("also the edge", "9 2 9 3", () -> after(row(3, 2, 3, 3), set(3), 9, EDGE | set(2), 0));
        Check.due("also the edge behind", "3 9 2 9", () -> after(row(3, 3, 2, 3), set(3), 9, 0, EDGE | set(2)));
        Check.due("all sounds are not the edge", "3 9 9", () -> after(word, set(3), 9, ANY, 0));
        Check.due("all sounds are not the edge behind", "9 9 3", () -> after(word, set(3), 9, 0, ANY));
        Check.due("anything", "9 9 9", () -> after(word, set(3), 9, EDGE | ANY, EDGE | ANY));
        Check.due("sound 0 is not the edge", "3", () -> after(row(3), set(3), 9, set(0), 0));
        Check.due("sound 15 is not the edge", "3", () -> after(row(3), set(3), 9, 0, set(15)));
        Check.due("the edge is not sound 15", "15 3", () -> after(row(15, 3), set(3), 9, EDGE, 0));
        refusedValue("no set has more", FamilyTools::three, x -> x.law(1, 1, 7, 131072, 0));
        refusedValue("no set behind has more", FamilyTools::three, x -> x.law(1, 1, 7, 0, 131072));
    }

    private static void allAtOnce() {
        Check.due("ten of them", "9 9 9 9 9 9 9 9 9 9", () -> after(row(3, 3, 3, 3, 3, 3, 3, 3, 3, 3), set(3), 9, 0, 0));
        Check.due("none of them", "3 3", () -> after(row(3, 3), set(4), 9, 0, 0));
        Check.due("none goes over what was made", "4 5", () -> after(row(3, 5), set(3, 4), 4, 0, 0));
    }

    private static void asItStoodBefore() {
        Check.due("ahead, not what became of it", "3 9 9 9", () -> after(row(3, 3, 3, 3), set(3), 9, set(3), 0));
        Check.due("behind, not what became of it", "9 9 9 3", () -> after(row(3, 3, 3, 3), set(3), 9, 0, set(3)));
        Check.due("ahead, not what it makes", "2 9 3", () -> after(row(2, 3, 3), set(3), 9, set(2, 9), 0));
        Check.due("behind, not what it makes", "3 9 2", () -> after(row(3, 3, 2), set(3), 9, 0, set(2, 9)));
        Check.due("what is left out stood there", "2", () -> after(row(2, 3, 3, 3), set(3), -1, set(2, 3), 0));
        Check.due("left out, it makes no edge", "4", () -> after(row(3, 4), set(3, 4), -1, EDGE, 0));
    }

    private static void leftOut() {
        Check.due("at the beginning", "4 5", () -> after(row(3, 4, 5), set(3), -1, 0, 0));
        Check.due("at the end", "4 5", () -> after(row(4, 5, 3), set(3), -1, 0, 0));
        Check.due("between", "4 5", () -> after(row(4, 3, 3, 5), set(3), -1, 0, 0));
        Check.due("nine of ten", "4", () -> after(row(3, 3, 3, 3, 3, 3, 3, 3, 3, 4), set(3), -1, 0, 0));
    }

    private static void neverWithoutSounds() {
        Check.due("of one", "3", () -> after(row(3), set(3), -1, 0, 0));
        Check.due("of sound 0", "0", () -> after(row(0), set(0), -1, 0, 0));
        Check.due("of ten", "0 1 2 3 4 5 6 7 8 9", () -> after(row(0, 1, 2, 3, 4, 5, 6, 7, 8, 9), ANY, -1, 0, 0));
        TonguerootFamily x = new TonguerootFamily();
        put(x, 0, 3, 4);
        x.language(0);
        x.law(1, set(3), -1, 0, 0);
        x.law(1, set(4), -1, 0, 0);
        x.law(1, set(4), 5, 0, 0);
        Check.due("the next law goes over it", "5", () -> spelt(x, 1, 0));
        Check.due("it did not change", 5, () -> x.changedBy(1, 0));
    }

    // ---- 1: languages

    private static TonguerootFamily chain(int count) {
        TonguerootFamily x = new TonguerootFamily();
        for (int language = 1; language < count; language++) {
            x.language(language - 1);
        }
        return x;
    }

    private static void tenLanguages() {
        TonguerootFamily x = new TonguerootFamily();
        for (int number = 1; number < 10; number++) {
            int each = number;
            Check.due("the next number", number, () -> x.language(0));
            Check.due("so many", each + 1, () -> x.languages());
        }
        Check.noState("an eleventh one", () -> x.language(0));
        Check.due("ten stay", 10, () -> x.languages());
        refusedState("what it leaves", () -> chain(10), y -> y.language(9));
        refusedPlace("no number 10", () -> chain(10), y -> y.laws(10));
        refusedPlace("no number 9 yet", () -> chain(9), y -> y.laws(9));
        taken("number 9", () -> chain(10), y -> y.laws(9));
    }

    private static void motherAtTheBeginning() {
        taken("0", TonguerootFamily::new, x -> x.laws(0));
        refusedPlace("1", TonguerootFamily::new, x -> x.laws(1));
        TonguerootFamily x = new TonguerootFamily();
        put(x, 0, 7);
        Check.due("the words are hers", 7, () -> x.soundAt(0, 0, 0));
        Check.due("she is what all come of", 0, () -> chain(10).common(0, 9));
    }

    private static void smallerParents() {
        refusedPlace("its own number", () -> chain(4), x -> x.language(4));
        taken("the number ahead of it", () -> chain(4), x -> x.language(3));
        TonguerootFamily x = chain(4);
        put(x, 0, 1);
        x.law(3, set(1), 2, 0, 0);
        x.language(3);
        x.language(0);
        Check.due("of the greatest number", "2", () -> spelt(x, 4, 0));
        Check.due("of the smallest number", "1", () -> spelt(x, 5, 0));
    }

    private static void eightLaws() {
        TonguerootFamily x = chain(3);
        put(x, 0, 0);
        for (int law = 0; law < 8; law++) {
            int each = law;
            Check.due("one more of 1", law + 1, () -> x.law(1, set(each), each + 1, 0, 0));
            Check.due("one more of 2", law + 1, () -> x.law(2, set(each + 8), (each + 9) % 16, 0, 0));
        }
        Check.noState("a ninth one of 1", () -> x.law(1, 1, 1, 0, 0));
        Check.noState("a ninth one of 2", () -> x.law(2, 1, 1, 0, 0));
        Check.due("eight stay", 8, () -> x.laws(1));
        Check.due("all eight go over it", "8", () -> spelt(x, 1, 0));
        Check.due("numbered from 0 in 1", 255, () -> x.changedBy(1, 0));
        Check.due("numbered from 0 in 2", 255, () -> x.changedBy(2, 0));
        Check.due("the sixteenth law", "0", () -> spelt(x, 2, 0));
    }

    private static void noLawsOfTheMother() {
        Check.due("at first", 0, () -> new TonguerootFamily().laws(0));
        refusedState("she gets none", FamilyTools::three, x -> x.law(0, 1, 7, 0, 0));
        refusedState("none can be taken from her", FamilyTools::three, x -> x.unlaw(0));
        refusedPlace("none can be swapped", FamilyTools::three, x -> x.swapped(0, 0));
        refusedPlace("none can be thought away", FamilyTools::three, x -> x.without(0, 0));
        Check.due("none of a full family", 0, () -> fullest().laws(0));
    }

    private static void twelveMeanings() {
        TonguerootFamily x = new TonguerootFamily();
        for (int meaning = 0; meaning < 12; meaning++) {
            put(x, meaning, meaning);
        }
        Check.due("all of them", 12, () -> x.wealth(0));
        Check.due("the first one", "0", () -> spelt(x, 0, 0));
        Check.due("the last one", "11", () -> spelt(x, 0, 11));
        boundsOfValue(0, 11, FamilyTools::three, (y, meaning) -> y.word(meaning));
        boundsOfValue(0, 11, FamilyTools::three, (y, meaning) -> y.loan(meaning, 0, 1, 0));
        boundsOfPlace(0, 11, FamilyTools::three, (y, meaning) -> y.length(2, meaning));
        boundsOfValue(0, 11, FamilyTools::three, (y, meaning) -> y.cost(meaning, 0, 1));
    }

    private static void wordsForSome() {
        TonguerootFamily x = new TonguerootFamily();
        Check.due("for none", 0, () -> x.wealth(0));
        put(x, 5, 1);
        Check.due("for one", 1, () -> x.wealth(0));
        Check.due("not for the one ahead", 0, () -> x.length(0, 4));
        Check.due("not for the one behind", 0, () -> x.length(0, 6));
    }

    private static void wordIfTheParentHas() {
        TonguerootFamily x = chain(10);
        Check.due("the last one has none", 0, () -> x.wealth(9));
        put(x, 11, 4, 4);
        Check.due("the last one has one", "4 4", () -> spelt(x, 9, 11));
        Check.due("not for the others", 1, () -> x.wealth(9));
        x.word(11);
        Check.due("it has none again", 0, () -> x.length(9, 11));
    }

    private static void lawsInOrder() {
        TonguerootFamily x = chain(3);
        put(x, 0, 1, 2);
        x.law(1, set(1), 2, 0, 0);
        x.law(1, set(2), 3, 0, 0);
        Check.due("the second goes over what the first made", "3 3", () -> spelt(x, 1, 0));
        x.law(1, set(1), 9, 0, 0);
        Check.due("a third one no more", "3 3", () -> spelt(x, 1, 0));
        x.law(2, set(3), 4, EDGE, 0);
        Check.due("the daughter's go over its parent's word", "4 3", () -> spelt(x, 2, 0));
        Check.due("not over its parent", "3 3", () -> spelt(x, 1, 0));
    }

    // ---- 1: loans

    private static void twelveLoans() {
        TonguerootFamily x = chain(3);
        put(x, 0, 1);
        for (int number = 0; number < 12; number++) {
            int each = number;
            Check.due("the next number", number, () -> x.loan(0, 0, 1, 0));
            Check.due("so many", each + 1, () -> x.loans());
        }
        Check.noState("a thirteenth one", () -> x.loan(0, 0, 1, 0));
        Check.due("twelve stay", 12, () -> x.loans());
        Check.due("the last one's number", 11, () -> x.origin(2, 0));
        taken("number 11", FamilyTools::fullest, y -> y.withoutLoan(11));
        refusedPlace("no number 12", FamilyTools::fullest, y -> y.withoutLoan(12));
        refusedState("what it leaves", FamilyTools::fullest, y -> y.loan(0, 0, 1, 8));
    }

    private static void toAGreaterOne() {
        refusedValue("to itself", FamilyTools::three, x -> x.loan(0, 1, 1, 0));
        refusedValue("to a smaller one", FamilyTools::three, x -> x.loan(0, 2, 1, 0));
        refusedValue("to the mother", FamilyTools::three, x -> x.loan(0, 1, 0, 0));
        refusedValue("from the mother to the mother", FamilyTools::three, x -> x.loan(0, 0, 0, 0));
        taken("to the next one", FamilyTools::three, x -> x.loan(0, 1, 2, 0));
        taken("from the mother", FamilyTools::three, x -> x.loan(0, 0, 2, 0));
        taken("from the first to the last", () -> chain(10), x -> x.loan(0, 0, 9, 0));
    }

    /** Language 2 has laws that make 0 a 1, that a 2 and so on; the mother's 0 is lent to it at some moment. */
    private static TonguerootFamily lentAt(int moment, int laws) {
        TonguerootFamily x = new TonguerootFamily();
        put(x, 0, 0);
        x.language(0);
        x.language(1);
        x.law(1, set(0), 15, 0, 0);
        for (int law = 0; law < laws; law++) {
            x.law(2, set(law), law + 1, 0, 0);
        }
        x.loan(0, 0, 2, moment);
        return x;
    }

    private static void nineMoments() {
        boundsOfValue(0, 8, FamilyTools::three, (x, moment) -> x.loan(0, 0, 1, moment));
        Check.due("ahead of all", "8", () -> spelt(lentAt(0, 8), 2, 0));
        Check.due("behind all", "0", () -> spelt(lentAt(8, 8), 2, 0));
    }

    private static void behindTheFirstLaws() {
        String[] due = {"1", "2", "3", "15", "15"};
        for (int moment = 0; moment < due.length; moment++) {
            int each = moment;
            TonguerootFamily y = lentBehind(moment);
            Check.due("moment " + moment, due[each], () -> spelt(y, 2, 0));
        }
    }

    /** Each of three laws of language 2 makes a 15, which language 1 has, another one. */
    private static TonguerootFamily lentBehind(int moment) {
        TonguerootFamily x = new TonguerootFamily();
        put(x, 0, 0);
        x.language(0);
        x.language(0);
        x.law(1, set(0), 15, 0, 0);
        for (int law = 0; law < 3; law++) {
            x.law(2, set(15), law + 1, 0, 0);
        }
        x.loan(0, 1, 2, moment);
        return x;
    }

    private static void fewerLawsThanTheMoment() {
        Check.due("no laws", "0", () -> spelt(lentAt(8, 0), 2, 0));
        Check.due("no laws, at moment 0", "0", () -> spelt(lentAt(0, 0), 2, 0));
        Check.due("seven laws", "0", () -> spelt(lentAt(8, 7), 2, 0));
        Check.due("just as many", "0", () -> spelt(lentAt(7, 7), 2, 0));
        TonguerootFamily x = lentBehind(3);
        Check.due("three laws", "15", () -> spelt(x, 2, 0));
        x.law(2, set(15), 9, 0, 0);
        Check.due("a fourth one comes behind it", "9", () -> spelt(x, 2, 0));
        x.unlaw(2);
        x.unlaw(2);
        Check.due("two laws are left", "15", () -> spelt(x, 2, 0));
    }

    private static void behindTheLawsOfTheFirst() {
        TonguerootFamily x = chain(3);
        put(x, 0, 1);
        for (int law = 0; law < 8; law++) {
            x.law(1, set(law + 1), law + 2, 0, 0);
        }
        x.loan(0, 1, 2, 0);
        Check.due("behind all eight", "9", () -> spelt(x, 2, 0));
        x.loan(0, 0, 1, 8);
        Check.due("and behind its loans", "1", () -> spelt(x, 2, 0));
    }

    private static void nothingToLend() {
        TonguerootFamily x = chain(3);
        x.law(2, set(1), 2, 0, 0);
        x.loan(0, 0, 2, 1);
        Check.due("no word", 0, () -> x.length(2, 0));
        Check.due("no origin", -1, () -> x.origin(2, 0));
        x.word(0);
        Check.due("no sounds", 0, () -> x.length(2, 0));
        Check.due("no origin of no sounds", -1, () -> x.origin(2, 0));
        x.spell(1);
        Check.due("something to lend", 0, () -> x.origin(2, 0));
        Check.due("it is lent", "1", () -> spelt(x, 2, 0));
    }

    private static void whateverThereWas() {
        TonguerootFamily x = chain(3);
        put(x, 0, 1, 1, 1, 1, 1, 1, 1, 1, 1, 1);
        x.law(1, set(1), -1, 0, set(1));
        Check.due("one sound is left", "1", () -> spelt(x, 2, 0));
        x.loan(0, 0, 2, 0);
        Check.due("a longer word", 10, () -> x.length(2, 0));
        x.loan(0, 1, 2, 0);
        Check.due("a shorter word, and what was lent is gone", "1", () -> spelt(x, 2, 0));
    }

    private static void otherLawsGoOverIt() {
        TonguerootFamily x = chain(3);
        put(x, 0, 1);
        x.law(2, set(1), 2, 0, 0);
        x.law(2, set(1), 3, 0, 0);
        x.law(2, set(3), 4, 0, 0);
        x.loan(0, 1, 2, 1);
        Check.due("two of three", "4", () -> spelt(x, 2, 0));
        Check.due("just these", 6, () -> x.changedBy(2, 0));
    }

    /** Language 3 gets the words of 1 (a 5) and 2 (a 6) for the same meaning, at two moments; it has no laws at first. */
    private static TonguerootFamily twice(int ofOne, int ofTwo) {
        TonguerootFamily x = new TonguerootFamily();
        put(x, 0, 1);
        x.language(0);
        x.language(0);
        x.language(0);
        x.law(1, set(1), 5, 0, 0);
        x.law(2, set(1), 6, 0, 0);
        x.loan(0, 1, 3, ofOne);
        x.loan(0, 2, 3, ofTwo);
        return x;
    }

    private static void byMoments() {
        for (int moment = 0; moment < 8; moment++) {
            TonguerootFamily later = twice(moment, moment + 1);
            TonguerootFamily earlier = twice(moment + 1, moment);
            for (int law = 0; law < 8; law++) {
                later.law(3, set(9), 9, 0, 0);
                earlier.law(3, set(9), 9, 0, 0);
            }
            Check.due("the second comes later than " + moment, "6", () -> spelt(later, 3, 0));
            Check.due("the first comes later than " + moment, "5", () -> spelt(earlier, 3, 0));
        }
    }

    private static void momentsAsTold() {
        Check.due("without laws", "5", () -> spelt(twice(8, 7), 3, 0));
        Check.due("without laws, the other way round", "6", () -> spelt(twice(7, 8), 3, 0));
        Check.due("without laws, from moment 0 on", "5", () -> spelt(twice(1, 0), 3, 0));
        TonguerootFamily x = twice(3, 2);
        x.law(3, set(5), 7, 0, 0);
        Check.due("with one law", "5", () -> spelt(x, 3, 0));
        Check.due("by the loan", 0, () -> x.origin(3, 0));
        TonguerootFamily y = twice(2, 1);
        y.law(3, set(5, 6), 7, 0, 0);
        Check.due("one of both has just as many laws", "5", () -> spelt(y, 3, 0));
    }

    private static void ofOneMoment() {
        for (int moment : row(0, 4, 8)) {
            TonguerootFamily x = twice(moment, moment);
            Check.due("at " + moment, "6", () -> spelt(x, 3, 0));
            Check.due("at " + moment + ", its number", 1, () -> x.origin(3, 0));
            x.loan(0, 1, 3, moment);
            Check.due("at " + moment + ", once more", "5", () -> spelt(x, 3, 0));
            Check.due("at " + moment + ", its number then", 2, () -> x.origin(3, 0));
        }
    }

    private static void lastLoanOnTheWay() {
        TonguerootFamily x = chain(5);
        put(x, 0, 1);
        x.loan(0, 0, 1, 0);
        Check.due("lent to it", 0, () -> x.origin(1, 0));
        Check.due("lent far ahead of it", 0, () -> x.origin(4, 0));
        x.loan(0, 1, 3, 0);
        Check.due("the last one on the way", 1, () -> x.origin(4, 0));
        Check.due("lent before", 0, () -> x.origin(2, 0));
        x.loan(0, 0, 3, 0);
        x.loan(0, 0, 2, 8);
        Check.due("a later number, but earlier on the way", 2, () -> x.origin(4, 0));
        Check.due("it stands in between", 3, () -> x.origin(2, 0));
        x.loan(0, 2, 4, 8);
        Check.due("lent from one to which it was lent", 4, () -> x.origin(4, 0));
    }

    private static void noLoanOnTheWay() {
        TonguerootFamily x = chain(10);
        put(x, 0, 1);
        x.law(4, set(1), 2, 0, 0);
        Check.due("of the mother", -1, () -> x.origin(0, 0));
        Check.due("of the last one, changed by a law", -1, () -> x.origin(9, 0));
        x.loan(0, 0, 5, 0);
        Check.due("of one ahead of the loan", -1, () -> x.origin(4, 0));
        Check.due("of one behind the loan", 0, () -> x.origin(9, 0));
        Check.due("of another meaning", -1, () -> x.origin(9, 1));
    }

    private static void kinByOrigin() {
        TonguerootFamily x = new TonguerootFamily();
        put(x, 0, 1);
        x.language(0);
        x.language(0);
        x.language(2);
        Check.due("no loan in both", 1, () -> x.answers(1, 2, 1, 1));
        x.loan(0, 0, 1, 0);
        Check.due("a loan in one", 0, () -> x.answers(1, 2, 1, 1));
        x.loan(0, 1, 2, 0);
        Check.due("two loans, one of the other", 0, () -> x.answers(1, 2, 1, 1));
        Check.due("one loan in both", 1, () -> x.answers(2, 3, 1, 1));
        Check.due("a language and itself", 1, () -> x.answers(3, 3, 1, 1));
    }

    // ---- 2: beside each other

    /** The mother's word, and what three laws make of it: 0 becomes 1, and 1 becomes 0 (by the sound 9). */
    private static TonguerootFamily exchanged(int features, int... word) {
        TonguerootFamily x = new TonguerootFamily();
        x.setSound(1, features);
        put(x, 0, word);
        x.language(0);
        x.law(1, set(0), 9, 0, 0);
        x.law(1, set(1), 0, 0, 0);
        x.law(1, set(9), 1, 0, 0);
        return x;
    }

    /** The mother's word, and what is left of it in language 1. */
    private static TonguerootFamily shortened(int[] word, int lost, int ahead, int behind) {
        TonguerootFamily x = new TonguerootFamily();
        put(x, 0, word);
        x.language(0);
        x.law(1, lost, -1, ahead, behind);
        return x;
    }

    private static void mostColumns() {
        TonguerootFamily x = exchanged(63, 0, 0, 0, 0, 0, 1, 1, 1, 1, 1);
        Check.due("two words of ten with five pairs", 15, () -> x.columns(0, 0, 1));
        Check.due("just these", "16 16 16 16 16 17 17 17 17 17 256 256 256 256 256", () -> table(x, 0, 0, 1));
        Check.due("no gap answers a gap", 0, () -> x.answers(0, 1, -1, -1));
        TonguerootFamily y = exchanged(63, 0, 1, 0, 1, 0, 1, 0, 1, 0, 1);
        Check.due("a gap at either end", 11, () -> y.columns(0, 0, 1));
        Check.due("never two of them", false, () -> (" " + table(y, 0, 0, 1) + " ").contains(" 272 "));
    }

    private static void columnsReadAsWords() {
        int[][] words = {{0}, {0, 1}, {0, 1, 1, 0, 1, 0, 0, 1, 1, 1}, {0, 0, 0, 0, 0, 1, 1, 1, 1, 1}, {5, 0, 1, 1, 5, 0}};
        for (int[] word : words) {
            for (int features : row(0, 7, 15, 63)) {
                TonguerootFamily x = exchanged(features, word);
                Check.due("they are used up", "none left", () -> leftOver(x, word));
            }
        }
    }

    /** Reads the columns of the two words of {@link #exchanged}, in which 0 and 1 have changed places. */
    private static String leftOver(TonguerootFamily x, int[] word) {
        int first = 0;
        int second = 0;
        int count = x.columns(0, 0, 1);
        for (int column = 0; column < count; column++) {
            int pair = x.columnAt(0, 0, 1, column);
            int upper = first < word.length ? word[first] : 99;
            int lower = second < word.length ? word[second] < 2 ? 1 - word[second] : word[second] : 99;
            boolean two = pair == 16 * upper + lower;
            boolean firstAlone = pair == 16 * upper + 16;
            if (!two && !firstAlone && pair != 256 + lower) {
                return "column " + column + " is " + pair;
            }
            first += two || firstAlone ? 1 : 0;
            second += firstAlone ? 0 : 1;
        }
        return first == word.length && second == word.length ? "none left" : first + " and " + second;
    }

    private static void costByFeatures() {
        TonguerootFamily x = new TonguerootFamily();
        put(x, 0, 0);
        x.language(0);
        x.law(1, set(0), 15, 0, 0);
        for (int features = 0; features < 64; features++) {
            int each = features;
            x.setSound(15, features);
            Check.due("from none to " + features, 1 + Integer.bitCount(each), () -> x.cost(0, 0, 1));
        }
        x.setSound(0, 42);
        for (int features = 0; features < 64; features++) {
            int each = features;
            x.setSound(15, features);
            Check.due("from 42 to " + features, 1 + Integer.bitCount(each ^ 42), () -> x.cost(0, 1, 0));
        }
    }

    private static void oneMoreIfNotTheSame() {
        TonguerootFamily x = new TonguerootFamily();
        for (int sound = 0; sound < 16; sound++) {
            x.setSound(sound, 21);
        }
        put(x, 0, 0, 15);
        x.language(0);
        Check.due("the same sounds", 0, () -> x.cost(0, 0, 1));
        x.law(1, set(15), 14, 0, 0);
        Check.due("another one of the same features", 1, () -> x.cost(0, 0, 1));
        x.law(1, set(0), 15, 0, 0);
        Check.due("two of them", 2, () -> x.cost(0, 0, 1));
        x.setSound(0, 20);
        Check.due("and one feature", 3, () -> x.cost(0, 0, 1));
    }

    private static void gapCostsFour() {
        TonguerootFamily x = shortened(row(0, 0), set(0), 0, EDGE);
        Check.due("one", 4, () -> x.cost(0, 0, 1));
        Check.due("one in the first", 4, () -> x.cost(0, 1, 0));
        TonguerootFamily y = shortened(row(0, 0, 0, 0, 0, 0, 0, 0, 0, 0), set(0), 0, set(0));
        Check.due("nine", 36, () -> y.cost(0, 0, 1));
        Check.due("nine in the first", 36, () -> y.cost(0, 1, 0));
        TonguerootFamily z = exchanged(63, 0);
        Check.due("two are dearer than the dearest pair", 7, () -> z.cost(0, 0, 1));
        Check.due("so there is none", 1, () -> z.columns(0, 0, 1));
        TonguerootFamily w = exchanged(63, 0, 0, 0, 0, 0, 1, 1, 1, 1, 1);
        Check.due("ten are cheaper than ten such pairs", 40, () -> w.cost(0, 0, 1));
    }

    private static void leastCostGoesAhead() {
        Check.due("a gap, then a pair", "16 17", () -> table(shortened(row(0, 1), set(0), 0, 0), 0, 0, 1));
        Check.due("a gap in the first, then a pair", "256 17", () -> table(shortened(row(0, 1), set(0), 0, 0), 0, 1, 0));
        Check.due("five gaps, then pairs", 40, () -> exchanged(63, 0, 0, 0, 0, 0, 1, 1, 1, 1, 1).cost(0, 0, 1));
        Check.due("two pairs of 5 are dearer than two gaps", "16 17 256", () -> table(exchanged(15, 0, 1), 0, 0, 1));
        Check.due("two pairs of 3 are cheaper", "1 16", () -> table(exchanged(3, 0, 1), 0, 0, 1));
    }

    private static void fromTheFirstColumnOn() {
        TonguerootFamily x = shortened(row(0, 0, 0), set(0), 0, EDGE);
        Check.due("pairs, then the gap", "0 0 16", () -> table(x, 0, 0, 1));
        Check.due("pairs, then the gap in the first", "0 0 256", () -> table(x, 0, 1, 0));
        TonguerootFamily y = shortened(row(0, 0, 1, 1), set(0, 1), EDGE, 0);
        Check.due("the gap ahead of what is left", "0 16 17 17", () -> table(y, 0, 0, 1));
        TonguerootFamily z = exchanged(63, 5, 0, 1);
        Check.due("a choice in the second column", "85 16 17 256", () -> table(z, 0, 0, 1));
        TonguerootFamily w = exchanged(63, 0, 1, 0, 1);
        Check.due("one choice makes the next ones", "16 17 0 17 256", () -> table(w, 0, 0, 1));
        gapsOnBothSides();
    }

    /** Language 1 has 1 2 3 4, and 2 has 0 1 2 4; the sounds beside each other are far. */
    private static void gapsOnBothSides() {
        TonguerootFamily x = new TonguerootFamily();
        x.setSound(1, 63);
        x.setSound(3, 63);
        put(x, 0, 0, 1, 2, 3, 4);
        x.language(0);
        x.language(0);
        x.law(1, set(0), -1, 0, 0);
        x.law(2, set(3), -1, 0, 0);
        Check.due("first a gap in the first, later one in the second", "256 17 34 64 68", () -> table(x, 0, 1, 2));
        Check.due("first a gap in the second, later one in the first", "16 17 34 259 68", () -> table(x, 0, 2, 1));
    }

    private static void twoSoundsComeFirst() {
        Check.due("two pairs of 4, not two gaps", "1 16", () -> table(exchanged(7, 0, 1), 0, 0, 1));
        Check.due("the other way round", "16 1", () -> table(exchanged(7, 0, 1), 0, 1, 0));
        TonguerootFamily x = shortened(row(0, 0), set(0), 0, EDGE);
        Check.due("ahead of a gap in the second", "0 16", () -> table(x, 0, 0, 1));
        Check.due("ahead of a gap in the first", "0 256", () -> table(x, 0, 1, 0));
        x.law(1, set(0), 1, 0, 0);
        Check.due("also if they are not the same", "1 16", () -> table(x, 0, 0, 1));
    }

    private static void gapInTheSecondComesNext() {
        Check.due("0 1 beside 1 0", "16 17 256", () -> table(exchanged(63, 0, 1), 0, 0, 1));
        Check.due("1 0 beside 0 1", "32 0 257", () -> table(exchanged(63, 0, 1), 0, 1, 0));
        Check.due("behind a pair", "85 32 0 257", () -> table(exchanged(63, 5, 1, 0), 0, 0, 1));
    }

    private static void answersOfKinAlone() {
        TonguerootFamily x = chain(3);
        for (int meaning = 0; meaning < 12; meaning++) {
            put(x, meaning, 1, 1, 1, 1, 1, 1, 1, 1, 1, 1);
        }
        Check.due("all of them", 120, () -> x.answers(1, 2, 1, 1));
        x.loan(0, 0, 2, 0);
        Check.due("not what is lent", 110, () -> x.answers(1, 2, 1, 1));
        x.loan(11, 0, 1, 0);
        Check.due("but what is lent to both", 110, () -> x.answers(1, 2, 1, 1));
        x.word(5);
        Check.due("not what has no word", 100, () -> x.answers(1, 2, 1, 1));
    }

    private static void answersOfGaps() {
        TonguerootFamily x = shortened(row(0, 15, 0), set(0), EDGE, 0);
        x.law(1, set(15), -1, 0, 0);
        Check.due("0 to a gap", 1, () -> x.answers(0, 1, 0, -1));
        Check.due("15 to a gap", 1, () -> x.answers(0, 1, 15, -1));
        Check.due("a gap to 0", 1, () -> x.answers(1, 0, -1, 0));
        Check.due("a gap to 15", 1, () -> x.answers(1, 0, -1, 15));
        Check.due("never a gap to a gap", 0, () -> x.answers(0, 1, -1, -1));
        Check.due("no gap in the first", 0, () -> x.answers(0, 1, -1, 0));
    }

    private static void farOfAllMeanings() {
        TonguerootFamily x = shortened(row(0, 1), set(0), 0, 0);
        put(x, 11, 1);
        Check.due("two meanings", 2.0, () -> x.far(0, 1));
        x.loan(0, 0, 1, 0);
        Check.due("lent ahead of the law, so as dear", 2.0, () -> x.far(0, 1));
        x.loan(11, 0, 1, 0);
        Check.due("none is kin", 2.0, () -> x.far(0, 1));
        x.word(11);
        Check.due("one meaning", 4.0, () -> x.far(0, 1));
        x.word(0);
        Check.due("no meaning", 0.0, () -> x.far(0, 1));
    }

    private static void farIsNotCut() {
        TonguerootFamily x = chain(2);
        for (int meaning = 0; meaning < 12; meaning++) {
            put(x, meaning, meaning);
        }
        x.law(1, set(11), 15, 0, 0);
        Check.due("1 of 12", 1.0 / 12, () -> x.far(0, 1));
        x.law(1, set(10), 15, 0, 0);
        x.word(0);
        Check.due("2 of 11", 2.0 / 11, () -> x.far(1, 0));
        x.setSound(15, 63);
        Check.due("14 of 11", 14.0 / 11, () -> x.far(0, 1));
    }

    // ---- 3: a lost language

    private static void daughtersAlone() {
        TonguerootFamily x = chain(4);
        put(x, 0, 1);
        x.law(2, set(1), 2, 0, 0);
        Check.due("not a granddaughter", "1", () -> recalledWord(x, 0, 0));
        Check.due("not itself", "2", () -> recalledWord(x, 1, 0));
        Check.due("not its parent", "", () -> recalledWord(x, 3, 0));
    }

    private static void kinDaughtersAlone() {
        TonguerootFamily x = new TonguerootFamily();
        Check.due("no word", 0, () -> x.recalled(0, 0));
        put(x, 0, 1);
        x.language(0);
        x.language(0);
        x.law(1, set(1), 2, 0, 0);
        x.loan(0, 0, 1, 1);
        x.law(2, set(1), 3, 0, 0);
        Check.due("the lent one is passed over", "3", () -> recalledWord(x, 0, 0));
        x.loan(0, 1, 2, 1);
        Check.due("both are lent", 0, () -> x.recalled(0, 0));
        x.language(2);
        Check.due("kin by the same loan", "1", () -> recalledWord(x, 2, 0));
    }

    /** Daughter 1 keeps the mother's 0 1, and 2 and 3 have 1 0; 0 and 1 are so far that pairs of them are too dear. */
    private static TonguerootFamily oneAgainstTwo() {
        TonguerootFamily x = farSounds();
        put(x, 0, 0, 1);
        x.language(0);
        for (int language = 2; language < 4; language++) {
            x.language(0);
            x.law(language, set(0), 9, 0, 0);
            x.law(language, set(1), 0, 0, 0);
            x.law(language, set(9), 1, 0, 0);
        }
        return x;
    }

    private static void firstDaughterAligned() {
        TonguerootFamily x = oneAgainstTwo();
        Check.due("0 is a gap in both, 1 is 1 in both", "1", () -> recalledWord(x, 0, 0));
        x.language(0);
        x.loan(0, 0, 1, 0);
        Check.due("1 0 is the first one, without the lent one", "1 0", () -> recalledWord(x, 0, 0));
    }

    private static void oneVoteForItself() {
        TonguerootFamily x = new TonguerootFamily();
        put(x, 0, 5);
        x.language(0);
        Check.due("of one daughter", "5", () -> recalledWord(x, 0, 0));
        x.language(0);
        x.law(2, set(5), 6, 0, 0);
        Check.due("one vote each", "5", () -> recalledWord(x, 0, 0));
        x.language(0);
        x.law(3, set(5), 6, 0, 0);
        Check.due("two votes against it", "6", () -> recalledWord(x, 0, 0));
    }

    private static void gapsVoteToo() {
        TonguerootFamily x = new TonguerootFamily();
        put(x, 0, 5, 6);
        x.language(0);
        x.language(0);
        x.language(0);
        x.law(2, set(6), -1, 0, 0);
        Check.due("one gap of three", "5 6", () -> recalledWord(x, 0, 0));
        x.law(3, set(6), -1, 0, 0);
        Check.due("two gaps of three", "5", () -> recalledWord(x, 0, 0));
        x.unlaw(3);
        x.unlaw(2);
        x.law(1, set(5), -1, 0, 0);
        Check.due("what stands beside a gap in the first one has no votes", "6", () -> recalledWord(x, 0, 0));
    }

    private static void mostVotes() {
        TonguerootFamily x = new TonguerootFamily();
        put(x, 0, 5);
        for (int language = 1; language < 10; language++) {
            x.language(0);
            if (language > 5) {
                x.law(language, set(5), 15, 0, 0);
            }
        }
        Check.due("five of nine", "5", () -> recalledWord(x, 0, 0));
        x.law(1, set(5), 15, 0, 0);
        Check.due("five of nine are others, though greater", "15", () -> recalledWord(x, 0, 0));
    }

    private static void soundAheadOfGap() {
        TonguerootFamily x = new TonguerootFamily();
        put(x, 0, 5, 15);
        for (int language = 1; language < 5; language++) {
            x.language(0);
        }
        x.law(3, set(15), -1, 0, 0);
        x.law(4, set(15), -1, 0, 0);
        Check.due("two and two", "5 15", () -> recalledWord(x, 0, 0));
        x.language(0);
        x.law(5, set(15), -1, 0, 0);
        Check.due("two and three", "5", () -> recalledWord(x, 0, 0));
    }

    private static void smallerSoundFirst() {
        TonguerootFamily x = new TonguerootFamily();
        put(x, 0, 5);
        x.language(0);
        x.language(0);
        x.law(2, set(5), 0, 0, 0);
        Check.due("5 and 0", "0", () -> recalledWord(x, 0, 0));
        x.unlaw(2);
        x.law(2, set(5), 15, 0, 0);
        Check.due("5 and 15", "5", () -> recalledWord(x, 0, 0));
        x.law(1, set(5), 14, 0, 0);
        Check.due("14 and 15", "14", () -> recalledWord(x, 0, 0));
    }

    /** At each place of daughter 1's word 0 1 2 two others have gaps, and the third one another sound. */
    private static TonguerootFamily onlyGaps() {
        TonguerootFamily x = new TonguerootFamily();
        put(x, 0, 0, 1, 2);
        x.language(0);
        for (int each = 0; each < 3; each++) {
            x.setSound(each, 1 << each);
            x.setSound(each + 3, 1 << each);
            x.language(0);
            x.law(each + 2, set(0, 1, 2) - set(each), -1, 0, 0);
            x.law(each + 2, set(each), each + 3, 0, 0);
        }
        return x;
    }

    private static void gapsAreLeftOut() {
        TonguerootFamily x = onlyGaps();
        Check.due("all of them are gaps", 0, () -> x.recalled(0, 0));
        Check.noPlace("no place in it", () -> x.recalledAt(0, 0, 0));
        Check.due("that is not the word", 0, () -> x.recalledWell(0));
        x.unlaw(3);
        Check.due("one is none", "1", () -> recalledWord(x, 0, 0));
    }

    private static void nothingWithoutDaughters() {
        TonguerootFamily x = chain(10);
        put(x, 0, 1);
        Check.due("no daughters", 0, () -> x.recalled(9, 0));
        Check.due("a daughter", 1, () -> x.recalled(8, 0));
        x.loan(0, 0, 9, 0);
        Check.due("she is not kin", 0, () -> x.recalled(8, 0));
        Check.noPlace("no place", () -> x.recalledAt(8, 0, 0));
        Check.due("a meaning without words", 0, () -> x.recalled(0, 1));
    }

    // ---- exceptions

    private static void refusedCallsChangeNothing() {
        Maker full = FamilyTools::fullest;
        refusedValue("setSound, sound", full, x -> x.setSound(16, 5));
        refusedValue("setSound, features", full, x -> x.setSound(5, 64));
        refusedValue("word", full, x -> x.word(12));
        refusedValue("spell, sound", full, x -> x.spell(16));
        refusedState("spell, an eleventh one", full, x -> x.spell(5));
        refusedState("spell, none open", TonguerootFamily::new, x -> x.spell(5));
        refusedPlace("language, parent", () -> chain(9), x -> x.language(9));
        refusedState("language, an eleventh one", full, x -> x.language(0));
        refusedPlace("law, language", FamilyTools::three, x -> x.law(3, 1, 0, 0, 0));
        refusedValue("law, sounds", FamilyTools::three, x -> x.law(2, 0, 0, 0, 0));
        refusedValue("law, becomes", FamilyTools::three, x -> x.law(2, 1, 22, 0, 0));
        refusedValue("law, ahead", FamilyTools::three, x -> x.law(2, 1, 0, 131072, 0));
        refusedValue("law, behind", FamilyTools::three, x -> x.law(2, 1, 0, 0, 131072));
        refusedState("law, the mother", full, x -> x.law(0, ANY, 0, 0, 0));
        refusedState("law, a ninth one", full, x -> x.law(1, ANY, 0, 0, 0));
        refusedPlace("unlaw, language", full, x -> x.unlaw(10));
        refusedState("unlaw, none", FamilyTools::three, x -> x.unlaw(2));
        refusedPlace("loan, from", FamilyTools::three, x -> x.loan(0, -1, 2, 0));
        refusedPlace("loan, to", FamilyTools::three, x -> x.loan(0, 0, 3, 0));
        refusedValue("loan, meaning", FamilyTools::three, x -> x.loan(12, 0, 2, 0));
        refusedValue("loan, to not greater", FamilyTools::three, x -> x.loan(0, 2, 2, 0));
        refusedValue("loan, moment", FamilyTools::three, x -> x.loan(0, 0, 2, 9));
        refusedState("loan, a thirteenth one", full, x -> x.loan(0, 0, 9, 8));
        refusedQuestionsChangeNothing(full);
    }

    private static void refusedQuestionsChangeNothing(Maker full) {
        refusedPlace("laws", full, x -> x.laws(10));
        refusedPlace("common", full, x -> x.common(10, 9));
        refusedPlace("length", full, x -> x.length(10, 0));
        refusedPlace("soundAt", full, x -> x.soundAt(0, 0, 10));
        refusedPlace("origin", full, x -> x.origin(0, 12));
        refusedPlace("changedBy", full, x -> x.changedBy(0, -1));
        refusedPlace("wealth", full, x -> x.wealth(-1));
        refusedPlace("alike", full, x -> x.alike(10));
        refusedPlace("soundsOf", full, x -> x.soundsOf(10));
        refusedPlace("cost, language", full, x -> x.cost(0, 0, 10));
        refusedValue("cost, meaning", full, x -> x.cost(12, 0, 9));
        refusedPlace("columns, language", full, x -> x.columns(0, 10, 0));
        refusedValue("columns, meaning", full, x -> x.columns(-1, 0, 9));
        refusedPlace("columnAt, language", full, x -> x.columnAt(0, 0, 10, 0));
        refusedValue("columnAt, column", full, x -> x.columnAt(0, 0, 9, 20));
        refusedPlace("answers, language", full, x -> x.answers(0, 10, 0, 0));
        refusedValue("answers, sound", full, x -> x.answers(0, 9, -2, 0));
        refusedPlace("mainAnswer, language", full, x -> x.mainAnswer(10, 0, 0));
        refusedValue("mainAnswer, sound", full, x -> x.mainAnswer(0, 9, -1));
        refusedPlace("far", full, x -> x.far(0, 10));
        refusedPlace("nearest", full, x -> x.nearest(10));
        refusedPlace("recalled", full, x -> x.recalled(0, 12));
        refusedPlace("recalledAt", full, x -> x.recalledAt(0, 0, 10));
        refusedPlace("recalledWell", full, x -> x.recalledWell(10));
        refusedPlace("swapped, law", full, x -> x.swapped(9, 8));
        refusedValue("swapped, the last law", full, x -> x.swapped(9, 7));
        refusedPlace("without", full, x -> x.without(9, 8));
        refusedPlace("withoutLoan", full, x -> x.withoutLoan(12));
        refusedPlace("looksLent", full, x -> x.looksLent(10, 0));
    }

    private static void firstNamedException() {
        Maker full = FamilyTools::fullest;
        refusedValue("spell: no such sound, none open", TonguerootFamily::new, x -> x.spell(16));
        refusedValue("spell: no such sound, it has 10", full, x -> x.spell(-1));
        refusedPlace("language: no such parent, there are 10", full, x -> x.language(10));
        refusedPlace("law: no such language, no sounds", full, x -> x.law(10, 0, 0, 0, 0));
        refusedPlace("law: no such language, no such neighbours", full, x -> x.law(-1, 1, 22, -1, 131072));
        refusedValue("law: no sounds, the mother", full, x -> x.law(0, 0, 0, 0, 0));
        refusedValue("law: no sounds, it has 8", full, x -> x.law(9, 65536, 0, 0, 0));
        refusedValue("law: becomes, it has 8", full, x -> x.law(9, 1, -2, 0, 0));
        refusedValue("law: ahead, it has 8", full, x -> x.law(9, 1, 0, 131072, 0));
        refusedValue("law: behind, it has 8", full, x -> x.law(9, 1, 0, 0, -1));
        refusedPlace("loan: no such language, no such meaning, there are 12", full, x -> x.loan(12, 10, 1, 0));
        refusedPlace("loan: no such language, which is not greater", full, x -> x.loan(0, 10, 10, 0));
        refusedPlace("loan: no such language to which, no such moment", full, x -> x.loan(0, 0, 10, 9));
        refusedPlace("loan: a language below 0, to not greater", full, x -> x.loan(0, 5, -1, 0));
        refusedValue("loan: no such meaning, there are 12", full, x -> x.loan(-1, 0, 1, 0));
        refusedValue("loan: to not greater, there are 12", full, x -> x.loan(0, 1, 1, 0));
        refusedValue("loan: no such moment, there are 12", full, x -> x.loan(0, 0, 1, 9));
        refusedPlace("cost: no such language, no such meaning", full, x -> x.cost(12, 0, 10));
        refusedPlace("columns: no such language, no such meaning", full, x -> x.columns(-1, 10, 0));
        refusedPlace("columnAt: no such language, no such meaning", full, x -> x.columnAt(12, 10, 0, 0));
        refusedPlace("columnAt: no such language, no such column", full, x -> x.columnAt(0, 0, -1, -1));
        refusedPlace("answers: no such language, no such sound", full, x -> x.answers(10, 0, 16, 0));
        refusedPlace("answers: no such language, no such answer", full, x -> x.answers(0, 10, 0, -2));
        refusedPlace("mainAnswer: no such language, no such sound", full, x -> x.mainAnswer(0, -1, 16));
        refusedPlace("swapped: no such law, behind the last one", full, x -> x.swapped(9, 8));
    }
}
