import java.util.ArrayList;
import java.util.Arrays;

/** A builder of families of languages. */
public final class TonguerootFamily {
    private static final int SOUNDS = 16;
    private static final int FEATURE_SETS = 64;
    private static final int SOUND_SETS = 65536;
    private static final int NEIGHBOUR_SETS = 131072;
    private static final int GREATEST_BECOMES = 21;
    private static final int MEANINGS = 12;
    private static final int MOST_SOUNDS = 10;
    private static final int MOST_LANGUAGES = 10;
    private static final int MOST_LAWS = 8;
    private static final int MOST_LOANS = 12;
    private static final int MOTHER = 0;
    private static final int NONE = -1;
    private static final int EDGE = 16;
    private static final int GAP = 16;
    private static final int GAP_COST = 4;
    private static final int UNKNOWN_COST = -2;
    private static final int NEVER_ANSWERED = -2;

    private final Sounds sounds;
    private final long[] given;
    private int open;
    private final History history;
    private final Lexicon actual;
    private final Lexicon unlent;
    private final Lexicon supposed;
    private final Alignment alignment;
    private final Votes[] votes;
    private final int[][] knownCosts;

    public TonguerootFamily() {
        sounds = new Sounds();
        given = new long[MEANINGS];
        open = NONE;
        ArrayList<Language> tongues = motherAlone();
        history = new History(tongues, new ArrayList<>());
        actual = new Lexicon(history, sounds, given);
        // The same list of languages, so what is built there stands here too; no loan ever comes here.
        unlent = new Lexicon(new History(tongues, new ArrayList<>()), sounds, given);
        supposed = new Lexicon(history, sounds, given);
        alignment = new Alignment(sounds);
        votes = new Votes[MOST_SOUNDS];
        for (int place = 0; place < MOST_SOUNDS; place++) {
            votes[place] = new Votes();
        }
        knownCosts = new int[MEANINGS][MOST_LANGUAGES * MOST_LANGUAGES];
        for (int meaning = 0; meaning < MEANINGS; meaning++) {
            Arrays.fill(knownCosts[meaning], UNKNOWN_COST);
        }
    }

    private static ArrayList<Language> motherAlone() {
        ArrayList<Language> row = new ArrayList<>();
        row.add(new Language(NONE));
        return row;
    }

    // ---- sounds, words of the mother

    public int setSound(int sound, int features) throws IllegalArgumentException {
        refuseUnless(isSound(sound) && features >= 0 && features < FEATURE_SETS);
        int before = sounds.featuresOf(sound);
        sounds.giveFeatures(sound, features);
        forgetAll();
        return before;
    }

    public int word(int meaning) throws IllegalArgumentException {
        refuseUnless(isMeaning(meaning));
        int before = Word.size(given[meaning]);
        given[meaning] = Word.EMPTY;
        open = meaning;
        forgetMeaning(meaning);
        return before;
    }

    public int spell(int sound) throws IllegalArgumentException, IllegalStateException {
        refuseUnless(isSound(sound));
        requireState(open != NONE && Word.size(given[open]) < MOST_SOUNDS);
        given[open] = Word.plus(given[open], sound);
        forgetMeaning(open);
        return Word.size(given[open]);
    }

    // ---- languages, laws, loans

    public int language(int parent) throws IndexOutOfBoundsException, IllegalStateException {
        requireThere(isLanguage(parent));
        requireState(history.languages.size() < MOST_LANGUAGES);
        history.languages.add(new Language(parent));
        forgetAll();
        return history.languages.size() - 1;
    }

    public int law(int language, int sounds, int becomes, int ahead, int behind)
            throws IndexOutOfBoundsException, IllegalArgumentException, IllegalStateException {
        requireThere(isLanguage(language));
        refuseUnless(sounds >= 1 && sounds < SOUND_SETS && becomes >= NONE && becomes <= GREATEST_BECOMES);
        refuseUnless(isNeighbourSet(ahead) && isNeighbourSet(behind));
        ArrayList<Law> row = lawsOf(language);
        requireState(language != MOTHER && row.size() < MOST_LAWS);
        row.add(new Law(sounds, becomes, ahead, behind));
        forgetAll();
        return row.size();
    }

    public int unlaw(int language) throws IndexOutOfBoundsException, IllegalStateException {
        requireThere(isLanguage(language));
        ArrayList<Law> row = lawsOf(language);
        requireState(!row.isEmpty());
        row.remove(row.size() - 1);
        forgetAll();
        return row.size();
    }

    public int loan(int meaning, int from, int to, int moment)
            throws IndexOutOfBoundsException, IllegalArgumentException, IllegalStateException {
        requireThere(isLanguage(from) && isLanguage(to));
        refuseUnless(isMeaning(meaning) && to > from && moment >= 0 && moment <= MOST_LAWS);
        requireState(history.loans.size() < MOST_LOANS);
        history.loans.add(new Loan(meaning, from, to, moment));
        forgetMeaning(meaning);
        return history.loans.size() - 1;
    }

    public int languages() {
        return history.languages.size();
    }

    public int laws(int language) throws IndexOutOfBoundsException {
        requireThere(isLanguage(language));
        return lawsOf(language).size();
    }

    public int loans() {
        return history.loans.size();
    }

    public int common(int one, int other) throws IndexOutOfBoundsException {
        requireThere(isLanguage(one) && isLanguage(other));
        int left = one;
        int right = other;
        // A parent's number is smaller, so the greater of two different ones can never be an ancestor of the smaller.
        for (int step = 0; step < 2 * MOST_LANGUAGES && left != right; step++) {
            if (left > right) {
                left = history.languages.get(left).parent;
            } else {
                right = history.languages.get(right).parent;
            }
        }
        return left;
    }

    // ---- words

    public int length(int language, int meaning) throws IndexOutOfBoundsException {
        requireThere(isLanguage(language) && isMeaning(meaning));
        actual.freshen(meaning);
        return Word.size(actual.wordOf(language, meaning));
    }

    public int soundAt(int language, int meaning, int place) throws IndexOutOfBoundsException {
        requireThere(isLanguage(language) && isMeaning(meaning));
        actual.freshen(meaning);
        return soundIn(actual.wordOf(language, meaning), place);
    }

    public int origin(int language, int meaning) throws IndexOutOfBoundsException {
        requireThere(isLanguage(language) && isMeaning(meaning));
        actual.freshen(meaning);
        return actual.originOf(language, meaning);
    }

    public int changedBy(int language, int meaning) throws IndexOutOfBoundsException {
        requireThere(isLanguage(language) && isMeaning(meaning));
        actual.freshen(meaning);
        return actual.changersOf(language, meaning);
    }

    public int wealth(int language) throws IndexOutOfBoundsException {
        requireThere(isLanguage(language));
        actual.freshenAll();
        return countWords(language);
    }

    public int alike(int language) throws IndexOutOfBoundsException {
        requireThere(isLanguage(language));
        actual.freshenAll();
        return countAlike(language);
    }

    public int soundsOf(int language) throws IndexOutOfBoundsException {
        requireThere(isLanguage(language));
        actual.freshenAll();
        return collectSounds(language);
    }

    // ---- beside each other

    public int cost(int meaning, int one, int other) throws IndexOutOfBoundsException, IllegalArgumentException {
        requireThere(isLanguage(one) && isLanguage(other));
        refuseUnless(isMeaning(meaning));
        actual.freshen(meaning);
        return leastCost(meaning, one, other);
    }

    public int columns(int meaning, int one, int other) throws IndexOutOfBoundsException, IllegalArgumentException {
        requireThere(isLanguage(one) && isLanguage(other));
        refuseUnless(isMeaning(meaning));
        actual.freshen(meaning);
        return layOut(meaning, one, other);
    }

    public int columnAt(int meaning, int one, int other, int column)
            throws IndexOutOfBoundsException, IllegalArgumentException {
        requireThere(isLanguage(one) && isLanguage(other));
        refuseUnless(isMeaning(meaning));
        actual.freshen(meaning);
        refuseUnless(column >= 0 && column < layOut(meaning, one, other));
        return SOUNDS * alignment.upperAt(column) + alignment.lowerAt(column);
    }

    public int answers(int one, int other, int sound, int answer)
            throws IndexOutOfBoundsException, IllegalArgumentException {
        requireThere(isLanguage(one) && isLanguage(other));
        refuseUnless(isSoundOrNone(sound) && isSoundOrNone(answer));
        actual.freshenAll();
        collectAnswers(one, other, columnSign(sound));
        return votes[0].countOf(columnSign(answer));
    }

    public int mainAnswer(int one, int other, int sound) throws IndexOutOfBoundsException, IllegalArgumentException {
        requireThere(isLanguage(one) && isLanguage(other));
        refuseUnless(isSound(sound));
        actual.freshenAll();
        collectAnswers(one, other, sound);
        int winner = votes[0].winner();
        if (winner == NONE) {
            return NEVER_ANSWERED;
        }
        return winner == GAP ? NONE : winner;
    }

    public double far(int one, int other) throws IndexOutOfBoundsException {
        requireThere(isLanguage(one) && isLanguage(other));
        actual.freshenAll();
        double distance = distanceOf(one, other);
        return distance < 0 ? 0 : distance;
    }

    public int nearest(int language) throws IndexOutOfBoundsException {
        requireThere(isLanguage(language));
        actual.freshenAll();
        return nearestTo(language);
    }

    // ---- a lost language

    public int recalled(int language, int meaning) throws IndexOutOfBoundsException {
        requireThere(isLanguage(language) && isMeaning(meaning));
        actual.freshen(meaning);
        return Word.size(recall(language, meaning));
    }

    public int recalledAt(int language, int meaning, int place) throws IndexOutOfBoundsException {
        requireThere(isLanguage(language) && isMeaning(meaning));
        actual.freshen(meaning);
        return soundIn(recall(language, meaning), place);
    }

    public int recalledWell(int language) throws IndexOutOfBoundsException {
        requireThere(isLanguage(language));
        actual.freshenAll();
        return countRecalledWell(language);
    }

    // ---- what would be (nothing is changed)

    public int swapped(int language, int law) throws IndexOutOfBoundsException, IllegalArgumentException {
        requireThere(isLanguage(language) && isLaw(language, law));
        refuseUnless(law + 1 < lawsOf(language).size());
        actual.freshenAll();
        suppose(language, history.languages.get(language).swappingLaw(law));
        supposed.freshenAll();
        return countDifferent(language);
    }

    public int without(int language, int law) throws IndexOutOfBoundsException {
        requireThere(isLanguage(language) && isLaw(language, law));
        actual.freshenAll();
        suppose(language, history.languages.get(language).lackingLaw(law));
        supposed.freshenAll();
        int count = 0;
        for (int each = 0; each < history.languages.size(); each++) {
            count += countDifferent(each);
        }
        return count;
    }

    public int withoutLoan(int loan) throws IndexOutOfBoundsException {
        requireThere(loan >= 0 && loan < history.loans.size());
        int meaning = history.loans.get(loan).meaning;
        actual.freshen(meaning);
        supposed.tellOf(history.lackingLoan(loan));
        supposed.freshen(meaning);
        int count = 0;
        for (int each = 0; each < history.languages.size(); each++) {
            if (differs(supposed, each, meaning)) {
                count++;
            }
        }
        return count;
    }

    public boolean looksLent(int language, int meaning) throws IndexOutOfBoundsException {
        requireThere(isLanguage(language) && isMeaning(meaning));
        actual.freshen(meaning);
        unlent.freshen(meaning);
        return differs(unlent, language, meaning);
    }

    public long digest() {
        actual.freshenAll();
        unlent.freshenAll();
        long sum = mixed(mixed(2677, history.languages.size()), history.loans.size());
        for (int language = 0; language < history.languages.size(); language++) {
            sum = mixed(sum, lawsOf(language).size());
            sum = mixed(sum, countWords(language));
            sum = mixed(sum, countAlike(language));
            sum = mixed(sum, collectSounds(language));
            sum = mixed(sum, nearestTo(language));
            sum = mixed(sum, countRecalledWell(language));
            for (int meaning = 0; meaning < MEANINGS; meaning++) {
                sum = mixWord(sum, language, meaning);
            }
        }
        return mixCosts(sum);
    }

    // ---- what the calls look at before they do anything

    private static void requireThere(boolean there) {
        if (!there) {
            throw new IndexOutOfBoundsException("no such language, meaning, place, law or loan");
        }
    }

    private static void refuseUnless(boolean fits) {
        if (!fits) {
            throw new IllegalArgumentException("a number outside of its bounds");
        }
    }

    private static void requireState(boolean ready) {
        if (!ready) {
            throw new IllegalStateException("not possible as things are");
        }
    }

    private static boolean isSound(int sound) {
        return sound >= 0 && sound < SOUNDS;
    }

    private static boolean isSoundOrNone(int sound) {
        return sound == NONE || isSound(sound);
    }

    private static boolean isMeaning(int meaning) {
        return meaning >= 0 && meaning < MEANINGS;
    }

    private static boolean isNeighbourSet(int set) {
        return set >= 0 && set < NEIGHBOUR_SETS;
    }

    private boolean isLanguage(int language) {
        return language >= 0 && language < history.languages.size();
    }

    private boolean isLaw(int language, int law) {
        return law >= 0 && law < lawsOf(language).size();
    }

    private ArrayList<Law> lawsOf(int language) {
        return history.languages.get(language).laws;
    }

    private static int soundIn(long word, int place) {
        requireThere(place >= 0 && place < Word.size(word));
        return Word.at(word, place);
    }

    // ---- what is known no longer, once something has changed

    private void forgetMeaning(int meaning) {
        actual.forget(meaning);
        unlent.forget(meaning);
        Arrays.fill(knownCosts[meaning], UNKNOWN_COST);
    }

    private void forgetAll() {
        for (int meaning = 0; meaning < MEANINGS; meaning++) {
            forgetMeaning(meaning);
        }
    }

    // ---- counting in the words of one language

    private int countWords(int language) {
        int count = 0;
        for (int meaning = 0; meaning < MEANINGS; meaning++) {
            if (actual.hasWord(language, meaning)) {
                count++;
            }
        }
        return count;
    }

    private int countAlike(int language) {
        int count = 0;
        for (int meaning = 0; meaning < MEANINGS; meaning++) {
            for (int next = meaning + 1; next < MEANINGS; next++) {
                boolean same = actual.wordOf(language, meaning) == actual.wordOf(language, next);
                if (same && actual.hasWord(language, meaning)) {
                    count++;
                }
            }
        }
        return count;
    }

    private int collectSounds(int language) {
        int set = 0;
        for (int meaning = 0; meaning < MEANINGS; meaning++) {
            long word = actual.wordOf(language, meaning);
            for (int place = 0; place < Word.size(word); place++) {
                set |= 1 << Word.at(word, place);
            }
        }
        return set;
    }

    // ---- two words beside each other

    private static int columnSign(int sound) {
        return sound == NONE ? GAP : sound;
    }

    private int leastCost(int meaning, int one, int other) {
        // The least cost is the same either way round, so each pair is kept once.
        int pair = Math.min(one, other) * MOST_LANGUAGES + Math.max(one, other);
        if (knownCosts[meaning][pair] == UNKNOWN_COST) {
            knownCosts[meaning][pair] = actual.bothHave(meaning, one, other)
                ? alignment.weigh(actual.wordOf(one, meaning), actual.wordOf(other, meaning))
                : NONE;
        }
        return knownCosts[meaning][pair];
    }

    private int layOut(int meaning, int one, int other) {
        if (!actual.bothHave(meaning, one, other)) {
            return 0;
        }
        return alignment.align(actual.wordOf(one, meaning), actual.wordOf(other, meaning));
    }

    private void collectAnswers(int one, int other, int sign) {
        votes[0].clear();
        for (int meaning = 0; meaning < MEANINGS; meaning++) {
            int count = actual.areKin(meaning, one, other) ? layOut(meaning, one, other) : 0;
            for (int column = 0; column < count; column++) {
                if (alignment.upperAt(column) == sign) {
                    votes[0].add(alignment.lowerAt(column));
                }
            }
        }
    }

    /** Answers -1 if the two have no meaning together. */
    private double distanceOf(int one, int other) {
        int sum = 0;
        int shared = 0;
        for (int meaning = 0; meaning < MEANINGS; meaning++) {
            int least = leastCost(meaning, one, other);
            if (least != NONE) {
                sum += least;
                shared++;
            }
        }
        return shared == 0 ? NONE : (double) sum / shared;
    }

    private int nearestTo(int language) {
        int nearest = NONE;
        double least = 0;
        for (int each = 0; each < history.languages.size(); each++) {
            double distance = each == language ? NONE : distanceOf(language, each);
            if (distance >= 0 && (nearest == NONE || distance < least)) {
                nearest = each;
                least = distance;
            }
        }
        return nearest;
    }

    // ---- recalling a lost word

    private boolean isWitness(int daughter, int language, int meaning) {
        return history.languages.get(daughter).parent == language && actual.areKin(meaning, daughter, language);
    }

    private long recall(int language, int meaning) {
        int first = NONE;
        for (int each = 0; each < history.languages.size(); each++) {
            if (isWitness(each, language, meaning)) {
                if (first == NONE) {
                    first = each;
                    openVotes(actual.wordOf(first, meaning));
                } else {
                    castVotes(alignment.align(actual.wordOf(first, meaning), actual.wordOf(each, meaning)));
                }
            }
        }
        return first == NONE ? Word.EMPTY : elected(Word.size(actual.wordOf(first, meaning)));
    }

    private void openVotes(long word) {
        for (int place = 0; place < Word.size(word); place++) {
            votes[place].clear();
            votes[place].add(Word.at(word, place));
        }
    }

    private void castVotes(int columnCount) {
        int place = 0;
        for (int column = 0; column < columnCount; column++) {
            if (alignment.upperAt(column) != GAP && place < MOST_SOUNDS) {
                votes[place].add(alignment.lowerAt(column));
                place++;
            }
        }
    }

    private long elected(int places) {
        long word = Word.EMPTY;
        for (int place = 0; place < places; place++) {
            int winner = votes[place].winner();
            if (isSound(winner)) {
                word = Word.plus(word, winner);
            }
        }
        return word;
    }

    private int countRecalledWell(int language) {
        int count = 0;
        for (int meaning = 0; meaning < MEANINGS; meaning++) {
            boolean same = actual.wordOf(language, meaning) == recall(language, meaning);
            if (same && actual.hasWord(language, meaning)) {
                count++;
            }
        }
        return count;
    }

    // ---- what would be

    private void suppose(int language, Language changed) {
        supposed.tellOf(history.replacing(language, changed));
    }

    // With loans or without, a language has a word just where the mother has one: two that differ are never none.
    private boolean differs(Lexicon lexicon, int language, int meaning) {
        return actual.wordOf(language, meaning) != lexicon.wordOf(language, meaning);
    }

    private int countDifferent(int language) {
        int count = 0;
        for (int meaning = 0; meaning < MEANINGS; meaning++) {
            if (differs(supposed, language, meaning)) {
                count++;
            }
        }
        return count;
    }

    // ---- the checksum

    private static long mixed(long sum, long value) {
        return sum * 31 + value;
    }

    private static long mixSounds(long sum, long word) {
        long next = mixed(sum, Word.size(word));
        for (int place = 0; place < Word.size(word); place++) {
            next = mixed(next, Word.at(word, place));
        }
        return next;
    }

    private long mixWord(long sum, int language, int meaning) {
        long next = mixSounds(sum, actual.wordOf(language, meaning));
        next = mixed(next, actual.originOf(language, meaning));
        next = mixed(next, actual.changersOf(language, meaning));
        next = mixSounds(next, recall(language, meaning));
        return mixed(next, differs(unlent, language, meaning) ? 1 : 0);
    }

    private long mixCosts(long sum) {
        long next = sum;
        int count = history.languages.size();
        for (int smaller = 0; smaller < count; smaller++) {
            for (int greater = smaller + 1; greater < count; greater++) {
                for (int meaning = 0; meaning < MEANINGS; meaning++) {
                    next = mixed(next, leastCost(meaning, smaller, greater));
                }
            }
        }
        return next;
    }

    /** A word is one number: four bits for each sound, the first one lowest, and above them how many there are. */
    private static final class Word {
        static final long EMPTY = 0;
        private static final int SOUND_BITS = 4;
        private static final int SIZE_SHIFT = SOUND_BITS * MOST_SOUNDS;
        private static final long ONE_MORE = 1L << SIZE_SHIFT;

        private Word() {
        }

        static int size(long word) {
            return (int) (word >>> SIZE_SHIFT);
        }

        static int at(long word, int place) {
            return (int) (word >>> SOUND_BITS * place) & SOUNDS - 1;
        }

        static long plus(long word, int sound) {
            return word + ONE_MORE | (long) sound << SOUND_BITS * size(word);
        }
    }

    /** The features of the sounds, and what two sounds cost beside each other. */
    private static final class Sounds {
        private final int[] features = new int[SOUNDS];
        final int[][] costs = new int[SOUNDS][SOUNDS];

        Sounds() {
            for (int one = 0; one < SOUNDS; one++) {
                Arrays.fill(costs[one], 1);
                costs[one][one] = 0;
            }
        }

        int featuresOf(int sound) {
            return features[sound];
        }

        void giveFeatures(int sound, int set) {
            features[sound] = set;
            for (int other = 0; other < SOUNDS; other++) {
                int between = other == sound ? 0 : 1 + Integer.bitCount(set ^ features[other]);
                costs[sound][other] = between;
                costs[other][sound] = between;
            }
        }

        int turned(int sound, int feature) {
            int wanted = features[sound] ^ 1 << feature;
            for (int other = 0; other < SOUNDS; other++) {
                if (features[other] == wanted) {
                    return other;
                }
            }
            return sound;
        }
    }

    private static final class Law {
        private final int sounds;
        private final int becomes;
        private final int ahead;
        private final int behind;

        Law(int sounds, int becomes, int ahead, int behind) {
            this.sounds = sounds;
            this.becomes = becomes;
            this.ahead = ahead;
            this.behind = behind;
        }

        long goOver(long word, Sounds all) {
            long made = Word.EMPTY;
            for (int place = 0; place < Word.size(word); place++) {
                int sound = Word.at(word, place);
                int heir = holdsAt(word, place) ? heirOf(sound, all) : sound;
                if (heir != NONE) {
                    made = Word.plus(made, heir);
                }
            }
            return made == Word.EMPTY ? word : made;
        }

        private boolean holdsAt(long word, int place) {
            int before = place == 0 ? EDGE : Word.at(word, place - 1);
            int after = place + 1 == Word.size(word) ? EDGE : Word.at(word, place + 1);
            return has(sounds, Word.at(word, place))
                && (ahead == 0 || has(ahead, before))
                && (behind == 0 || has(behind, after));
        }

        private int heirOf(int sound, Sounds all) {
            return becomes < SOUNDS ? becomes : all.turned(sound, becomes - SOUNDS);
        }

        private static boolean has(int set, int member) {
            return (set >>> member & 1) != 0;
        }
    }

    private static final class Loan {
        final int meaning;
        final int from;
        final int to;
        final int moment;

        Loan(int meaning, int from, int to, int moment) {
            this.meaning = meaning;
            this.from = from;
            this.to = to;
            this.moment = moment;
        }

        boolean comesTo(int language, int what, int when) {
            return to == language && meaning == what && moment == when;
        }
    }

    private static final class Language {
        final int parent;
        final ArrayList<Law> laws = new ArrayList<>();

        Language(int parent) {
            this.parent = parent;
        }

        Language lackingLaw(int law) {
            Language changed = new Language(parent);
            for (int each = 0; each < laws.size(); each++) {
                if (each != law) {
                    changed.laws.add(laws.get(each));
                }
            }
            return changed;
        }

        /** There must be a law behind the one that is named. */
        Language swappingLaw(int law) {
            Language changed = lackingLaw(law);
            changed.laws.add(law + 1, laws.get(law));
            return changed;
        }
    }

    /** All languages with their laws, and all loans: what makes the words out of the mother's. */
    private static final class History {
        final ArrayList<Language> languages;
        final ArrayList<Loan> loans;

        History(ArrayList<Language> languages, ArrayList<Loan> loans) {
            this.languages = languages;
            this.loans = loans;
        }

        History replacing(int language, Language changed) {
            ArrayList<Language> row = new ArrayList<>();
            for (int each = 0; each < languages.size(); each++) {
                row.add(each == language ? changed : languages.get(each));
            }
            return new History(row, loans);
        }

        History lackingLoan(int loan) {
            ArrayList<Loan> row = new ArrayList<>();
            for (int each = 0; each < loans.size(); each++) {
                if (each != loan) {
                    row.add(loans.get(each));
                }
            }
            return new History(languages, row);
        }
    }

    /** The words of all languages as one history makes them; a meaning must be freshened before it is read. */
    private static final class Lexicon {
        private History history;
        private final Sounds sounds;
        private final long[] given;
        private final long[] words = new long[MOST_LANGUAGES * MEANINGS];
        private final int[] origins = new int[MOST_LANGUAGES * MEANINGS];
        private final int[] changers = new int[MOST_LANGUAGES * MEANINGS];
        private final boolean[] fresh = new boolean[MEANINGS];

        Lexicon(History history, Sounds sounds, long[] given) {
            this.history = history;
            this.sounds = sounds;
            this.given = given;
        }

        void tellOf(History other) {
            history = other;
            for (int meaning = 0; meaning < MEANINGS; meaning++) {
                fresh[meaning] = false;
            }
        }

        void forget(int meaning) {
            fresh[meaning] = false;
        }

        void freshenAll() {
            for (int meaning = 0; meaning < MEANINGS; meaning++) {
                freshen(meaning);
            }
        }

        void freshen(int meaning) {
            if (fresh[meaning]) {
                return;
            }
            // A word comes only out of languages with smaller numbers, which are told by then.
            for (int language = 0; language < history.languages.size(); language++) {
                tellWord(language, meaning);
            }
            fresh[meaning] = true;
        }

        private void tellWord(int language, int meaning) {
            inherit(language, meaning);
            int here = cell(language, meaning);
            ArrayList<Law> laws = history.languages.get(language).laws;
            for (int moment = 0; moment <= MOST_LAWS; moment++) {
                borrow(language, meaning, moment);
                if (moment < laws.size()) {
                    long made = laws.get(moment).goOver(words[here], sounds);
                    if (made != words[here]) {
                        words[here] = made;
                        changers[here] |= 1 << moment;
                    }
                }
            }
        }

        private void inherit(int language, int meaning) {
            int here = cell(language, meaning);
            int parent = history.languages.get(language).parent;
            words[here] = parent == NONE ? given[meaning] : words[cell(parent, meaning)];
            origins[here] = parent == NONE ? NONE : origins[cell(parent, meaning)];
            changers[here] = 0;
        }

        private void borrow(int language, int meaning, int moment) {
            int here = cell(language, meaning);
            for (int number = 0; number < history.loans.size(); number++) {
                Loan loan = history.loans.get(number);
                if (loan.comesTo(language, meaning, moment) && hasWord(loan.from, meaning)) {
                    words[here] = words[cell(loan.from, meaning)];
                    origins[here] = number;
                    changers[here] = 0;
                }
            }
        }

        boolean hasWord(int language, int meaning) {
            return words[cell(language, meaning)] != Word.EMPTY;
        }

        boolean bothHave(int meaning, int one, int other) {
            return hasWord(one, meaning) && hasWord(other, meaning);
        }

        boolean areKin(int meaning, int one, int other) {
            return hasWord(one, meaning) && hasWord(other, meaning)
                && originOf(one, meaning) == originOf(other, meaning);
        }

        long wordOf(int language, int meaning) {
            return words[cell(language, meaning)];
        }

        int originOf(int language, int meaning) {
            return origins[cell(language, meaning)];
        }

        int changersOf(int language, int meaning) {
            return changers[cell(language, meaning)];
        }

        private static int cell(int language, int meaning) {
            return language * MEANINGS + meaning;
        }
    }

    /** Two words beside each other, in rows that are used again for each pair. */
    private static final class Alignment {
        private static final int MOST_COLUMNS = 2 * MOST_SOUNDS;

        private final Sounds sounds;
        private final int[] first = new int[MOST_SOUNDS];
        private final int[] second = new int[MOST_SOUNDS];
        private int firstSize;
        private int secondSize;
        // The least cost of what is left from a place in the first word and one in the second.
        private final int[][] least = new int[MOST_SOUNDS + 1][MOST_SOUNDS + 1];
        private final int[] upper = new int[MOST_COLUMNS];
        private final int[] lower = new int[MOST_COLUMNS];

        Alignment(Sounds sounds) {
            this.sounds = sounds;
        }

        int upperAt(int column) {
            return upper[column];
        }

        int lowerAt(int column) {
            return lower[column];
        }

        int weigh(long one, long other) {
            firstSize = spellOut(one, first);
            secondSize = spellOut(other, second);
            for (int left = firstSize; left >= 0; left--) {
                for (int right = secondSize; right >= 0; right--) {
                    least[left][right] = leastFrom(left, right);
                }
            }
            return least[0][0];
        }

        /** Answers how many columns there are. */
        int align(long one, long other) {
            weigh(one, other);
            int left = 0;
            int right = 0;
            int count = 0;
            while (count < MOST_COLUMNS && (left < firstSize || right < secondSize)) {
                boolean pairs = takesPair(left, right);
                boolean takesFirst = pairs || takesFirstAlone(left, right);
                boolean takesSecond = pairs || !takesFirst;
                upper[count] = takesFirst && left < firstSize ? first[left] : GAP;
                lower[count] = takesSecond && right < secondSize ? second[right] : GAP;
                left += takesFirst ? 1 : 0;
                right += takesSecond ? 1 : 0;
                count++;
            }
            return count;
        }

        private static int spellOut(long word, int[] row) {
            int size = Math.min(Word.size(word), row.length);
            for (int place = 0; place < size; place++) {
                row[place] = Word.at(word, place);
            }
            return size;
        }

        private int leastFrom(int left, int right) {
            if (left == firstSize) {
                return GAP_COST * (secondSize - right);
            }
            if (right == secondSize) {
                return GAP_COST * (firstSize - left);
            }
            int gap = GAP_COST + Math.min(least[left + 1][right], least[left][right + 1]);
            return Math.min(gap, pairFrom(left, right));
        }

        private int pairFrom(int left, int right) {
            return sounds.costs[first[left]][second[right]] + least[left + 1][right + 1];
        }

        private boolean takesPair(int left, int right) {
            return left < firstSize && right < secondSize && pairFrom(left, right) == least[left][right];
        }

        private boolean takesFirstAlone(int left, int right) {
            return left < firstSize && GAP_COST + least[left + 1][right] == least[left][right];
        }
    }

    /** How often each sound, and the gap behind them all, was named. */
    private static final class Votes {
        private final int[] counts = new int[SOUNDS + 1];

        void clear() {
            Arrays.fill(counts, 0);
        }

        void add(int sign) {
            counts[sign]++;
        }

        int countOf(int sign) {
            return counts[sign];
        }

        /** The first one with the most votes; -1 without any vote. */
        int winner() {
            int winner = NONE;
            int most = 0;
            for (int sign = 0; sign < counts.length; sign++) {
                if (counts[sign] > most) {
                    most = counts[sign];
                    winner = sign;
                }
            }
            return winner;
        }
    }
}
