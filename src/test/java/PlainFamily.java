import java.util.ArrayList;
import java.util.Arrays;
import java.util.HashMap;
import java.util.List;
import java.util.Map;

/**
 * The document once more, in another way: nothing is kept but what was told, and each answer
 * is worked out anew from the definitions. Other programs are held against this one.
 */
public final class PlainFamily {
    private static final List<Integer> NO_WORD = List.of();

    private final int[] features = new int[16];
    private final List<List<Integer>> given = new ArrayList<>();
    private final List<Integer> parents = new ArrayList<>();
    private final List<List<int[]>> laws = new ArrayList<>();
    private final List<int[]> loans = new ArrayList<>();
    private int open = -1;

    /** What is asked about: the laws and the loans (null where one is left out) as they are or would be. */
    private record World(List<List<int[]>> laws, List<int[]> loans) {
    }

    private record Told(List<Integer> word, int origin, int changed) {
    }

    private record Row(int cost, String steps) {
    }

    public PlainFamily() {
        for (int meaning = 0; meaning < 12; meaning++) {
            given.add(NO_WORD);
        }
        parents.add(-1);
        laws.add(new ArrayList<>());
    }

    public int setSound(int sound, int set) {
        value(sound >= 0 && sound <= 15 && set >= 0 && set <= 63);
        int before = features[sound];
        features[sound] = set;
        return before;
    }

    public int word(int meaning) {
        value(meaning >= 0 && meaning <= 11);
        open = meaning;
        return given.set(meaning, new ArrayList<>()).size();
    }

    public int spell(int sound) {
        value(sound >= 0 && sound <= 15);
        state(open >= 0 && given.get(open).size() < 10);
        given.get(open).add(sound);
        return given.get(open).size();
    }

    public int language(int parent) {
        tongue(parent);
        state(parents.size() < 10);
        parents.add(parent);
        laws.add(new ArrayList<>());
        return parents.size() - 1;
    }

    public int law(int language, int sounds, int becomes, int ahead, int behind) {
        tongue(language);
        value(sounds >= 1 && sounds <= 65535);
        value(becomes >= -1 && becomes <= 21);
        value(ahead >= 0 && ahead <= 131071);
        value(behind >= 0 && behind <= 131071);
        state(language != 0);
        state(laws.get(language).size() < 8);
        laws.get(language).add(new int[] {sounds, becomes, ahead, behind});
        return laws.get(language).size();
    }

    public int unlaw(int language) {
        tongue(language);
        state(laws.get(language).size() > 0);
        laws.get(language).remove(laws.get(language).size() - 1);
        return laws.get(language).size();
    }

    public int loan(int meaning, int from, int to, int moment) {
        tongue(from);
        tongue(to);
        value(meaning >= 0 && meaning <= 11);
        value(to > from);
        value(moment >= 0 && moment <= 8);
        state(loans.size() < 12);
        loans.add(new int[] {meaning, from, to, moment});
        return loans.size() - 1;
    }

    public int languages() {
        return parents.size();
    }

    public int laws(int language) {
        tongue(language);
        return laws.get(language).size();
    }

    public int loans() {
        return loans.size();
    }

    public int common(int one, int other) {
        tongue(one);
        tongue(other);
        int best = -1;
        for (int each = 0; each < parents.size(); each++) {
            if (comesOf(one, each) && comesOf(other, each)) {
                best = each;
            }
        }
        return best;
    }

    public int length(int language, int meaning) {
        tongue(language);
        place(meaning >= 0 && meaning <= 11);
        return wordOf(language, meaning).size();
    }

    public int soundAt(int language, int meaning, int place) {
        tongue(language);
        place(meaning >= 0 && meaning <= 11);
        List<Integer> word = wordOf(language, meaning);
        place(place >= 0 && place < word.size());
        return word.get(place);
    }

    public int origin(int language, int meaning) {
        tongue(language);
        place(meaning >= 0 && meaning <= 11);
        return tell(asIs(), language, meaning).origin;
    }

    public int changedBy(int language, int meaning) {
        tongue(language);
        place(meaning >= 0 && meaning <= 11);
        return tell(asIs(), language, meaning).changed;
    }

    public int wealth(int language) {
        tongue(language);
        int count = 0;
        for (int meaning = 0; meaning < 12; meaning++) {
            count += wordOf(language, meaning).isEmpty() ? 0 : 1;
        }
        return count;
    }

    public int alike(int language) {
        tongue(language);
        int twice = 0;
        for (int one = 0; one < 12; one++) {
            for (int other = 0; other < 12; other++) {
                List<Integer> word = wordOf(language, one);
                if (one != other && !word.isEmpty() && word.equals(wordOf(language, other))) {
                    twice++;
                }
            }
        }
        return twice / 2;
    }

    public int soundsOf(int language) {
        tongue(language);
        int set = 0;
        for (int meaning = 0; meaning < 12; meaning++) {
            for (int sound : wordOf(language, meaning)) {
                set |= 1 << sound;
            }
        }
        return set;
    }

    public int cost(int meaning, int one, int other) {
        tongue(one);
        tongue(other);
        value(meaning >= 0 && meaning <= 11);
        List<Integer> first = wordOf(one, meaning);
        List<Integer> second = wordOf(other, meaning);
        return first.isEmpty() || second.isEmpty() ? -1 : best(first, second).cost;
    }

    public int columns(int meaning, int one, int other) {
        tongue(one);
        tongue(other);
        value(meaning >= 0 && meaning <= 11);
        return table(meaning, one, other).size();
    }

    public int columnAt(int meaning, int one, int other, int column) {
        tongue(one);
        tongue(other);
        value(meaning >= 0 && meaning <= 11);
        List<int[]> table = table(meaning, one, other);
        value(column >= 0 && column < table.size());
        int[] pair = table.get(column);
        return 16 * (pair[0] < 0 ? 16 : pair[0]) + (pair[1] < 0 ? 16 : pair[1]);
    }

    public int answers(int one, int other, int sound, int answer) {
        tongue(one);
        tongue(other);
        value(sound >= -1 && sound <= 15);
        value(answer >= -1 && answer <= 15);
        int count = 0;
        for (int meaning = 0; meaning < 12; meaning++) {
            if (kin(meaning, one, other)) {
                for (int[] pair : table(meaning, one, other)) {
                    count += pair[0] == sound && pair[1] == answer ? 1 : 0;
                }
            }
        }
        return count;
    }

    public int mainAnswer(int one, int other, int sound) {
        tongue(one);
        tongue(other);
        value(sound >= 0 && sound <= 15);
        int best = -2;
        int most = 0;
        for (int turn = 0; turn <= 16; turn++) {
            int answer = turn == 16 ? -1 : turn;
            int count = answers(one, other, sound, answer);
            if (count > most) {
                most = count;
                best = answer;
            }
        }
        return best;
    }

    public double far(int one, int other) {
        tongue(one);
        tongue(other);
        long[] parts = farParts(one, other);
        return parts[1] == 0 ? 0.0 : (double) parts[0] / (double) parts[1];
    }

    public int nearest(int language) {
        tongue(language);
        int best = -1;
        long[] least = {0, 0};
        for (int each = 0; each < parents.size(); each++) {
            long[] parts = farParts(language, each);
            if (each != language && parts[1] > 0 && (best < 0 || parts[0] * least[1] < least[0] * parts[1])) {
                best = each;
                least = parts;
            }
        }
        return best;
    }

    public int recalled(int language, int meaning) {
        tongue(language);
        place(meaning >= 0 && meaning <= 11);
        return recall(language, meaning).size();
    }

    public int recalledAt(int language, int meaning, int place) {
        tongue(language);
        place(meaning >= 0 && meaning <= 11);
        List<Integer> word = recall(language, meaning);
        place(place >= 0 && place < word.size());
        return word.get(place);
    }

    public int recalledWell(int language) {
        tongue(language);
        int count = 0;
        for (int meaning = 0; meaning < 12; meaning++) {
            List<Integer> word = wordOf(language, meaning);
            count += !word.isEmpty() && word.equals(recall(language, meaning)) ? 1 : 0;
        }
        return count;
    }

    public int swapped(int language, int law) {
        tongue(language);
        place(law >= 0 && law < laws.get(language).size());
        value(law != laws.get(language).size() - 1);
        List<int[]> row = new ArrayList<>(laws.get(language));
        row.add(law, row.remove(law + 1));
        World other = new World(replaced(language, row), loans);
        int count = 0;
        for (int meaning = 0; meaning < 12; meaning++) {
            count += wordOf(language, meaning).equals(tell(other, language, meaning).word) ? 0 : 1;
        }
        return count;
    }

    public int without(int language, int law) {
        tongue(language);
        place(law >= 0 && law < laws.get(language).size());
        List<int[]> row = new ArrayList<>(laws.get(language));
        row.remove(law);
        World other = new World(replaced(language, row), loans);
        int count = 0;
        for (int each = 0; each < parents.size(); each++) {
            for (int meaning = 0; meaning < 12; meaning++) {
                count += wordOf(each, meaning).equals(tell(other, each, meaning).word) ? 0 : 1;
            }
        }
        return count;
    }

    public int withoutLoan(int loan) {
        place(loan >= 0 && loan < loans.size());
        int meaning = loans.get(loan)[0];
        List<int[]> row = new ArrayList<>(loans);
        row.set(loan, null);
        World other = new World(laws, row);
        int count = 0;
        for (int each = 0; each < parents.size(); each++) {
            count += wordOf(each, meaning).equals(tell(other, each, meaning).word) ? 0 : 1;
        }
        return count;
    }

    public boolean looksLent(int language, int meaning) {
        tongue(language);
        place(meaning >= 0 && meaning <= 11);
        List<Integer> bare = tell(new World(laws, List.of()), language, meaning).word;
        List<Integer> word = wordOf(language, meaning);
        return !bare.isEmpty() && !word.isEmpty() && !bare.equals(word);
    }

    public long digest() {
        List<Long> row = new ArrayList<>(List.of((long) languages(), (long) loans()));
        for (int l = 0; l < languages(); l++) {
            addAll(row, laws(l), wealth(l), alike(l), soundsOf(l), nearest(l), recalledWell(l));
            for (int m = 0; m < 12; m++) {
                addAll(row, length(l, m));
                for (int p = 0; p < length(l, m); p++) {
                    addAll(row, soundAt(l, m, p));
                }
                addAll(row, origin(l, m), changedBy(l, m), recalled(l, m));
                for (int p = 0; p < recalled(l, m); p++) {
                    addAll(row, recalledAt(l, m, p));
                }
                addAll(row, looksLent(l, m) ? 1 : 0);
            }
        }
        for (int a = 0; a < languages(); a++) {
            for (int b = a + 1; b < languages(); b++) {
                for (int m = 0; m < 12; m++) {
                    addAll(row, cost(m, a, b));
                }
            }
        }
        long d = 2677;
        for (long v : row) {
            d = d * 31 + v;
        }
        return d;
    }

    private static void addAll(List<Long> row, int... values) {
        for (int value : values) {
            row.add((long) value);
        }
    }

    private static void value(boolean good) {
        if (!good) {
            throw new IllegalArgumentException();
        }
    }

    private static void place(boolean good) {
        if (!good) {
            throw new IndexOutOfBoundsException();
        }
    }

    private static void state(boolean good) {
        if (!good) {
            throw new IllegalStateException();
        }
    }

    private void tongue(int language) {
        place(language >= 0 && language < parents.size());
    }

    private boolean comesOf(int language, int elder) {
        return language == elder || language > 0 && comesOf(parents.get(language), elder);
    }

    private World asIs() {
        return new World(laws, loans);
    }

    private List<List<int[]>> replaced(int language, List<int[]> row) {
        List<List<int[]>> all = new ArrayList<>(laws);
        all.set(language, row);
        return all;
    }

    private List<Integer> wordOf(int language, int meaning) {
        return tell(asIs(), language, meaning).word;
    }

    private Told tell(World world, int language, int meaning) {
        if (language == 0) {
            return new Told(given.get(meaning), -1, 0);
        }
        Told parent = tell(world, parents.get(language), meaning);
        List<Integer> word = parent.word;
        int origin = parent.origin;
        int changed = 0;
        List<int[]> row = world.laws.get(language);
        // Events in their order: a loan of moment m stands behind law m - 1 and ahead of law m.
        for (int event = 0; event < 9; event++) {
            for (int number = 0; number < world.loans.size(); number++) {
                int[] loan = world.loans.get(number);
                if (loan != null && loan[0] == meaning && loan[2] == language && loan[3] == event) {
                    List<Integer> lent = tell(world, loan[1], meaning).word;
                    if (!lent.isEmpty()) {
                        word = lent;
                        origin = number;
                        changed = 0;
                    }
                }
            }
            if (event < row.size()) {
                List<Integer> next = over(row.get(event), word);
                if (!next.equals(word)) {
                    changed += 1 << event;
                }
                word = next;
            }
        }
        return new Told(word, origin, changed);
    }

    private List<Integer> over(int[] law, List<Integer> word) {
        List<Integer> next = new ArrayList<>();
        for (int i = 0; i < word.size(); i++) {
            int sound = word.get(i);
            boolean is = (law[0] & 1 << sound) != 0;
            boolean ahead = law[2] == 0 || (law[2] & (i == 0 ? 65536 : 1 << word.get(i - 1))) != 0;
            boolean last = i == word.size() - 1;
            boolean behind = law[3] == 0 || (law[3] & (last ? 65536 : 1 << word.get(i + 1))) != 0;
            if (!is || !ahead || !behind) {
                next.add(sound);
            } else if (law[1] >= 16) {
                next.add(turned(sound, law[1] - 16));
            } else if (law[1] >= 0) {
                next.add(law[1]);
            }
        }
        return next.isEmpty() ? word : next;
    }

    private int turned(int sound, int feature) {
        boolean has = (features[sound] >> feature) % 2 == 1;
        int wanted = has ? features[sound] - (1 << feature) : features[sound] + (1 << feature);
        int found = sound;
        for (int other = 15; other >= 0; other--) {
            found = features[other] == wanted ? other : found;
        }
        return found;
    }

    private boolean kin(int meaning, int one, int other) {
        Told first = tell(asIs(), one, meaning);
        Told second = tell(asIs(), other, meaning);
        return !first.word.isEmpty() && !second.word.isEmpty() && first.origin == second.origin;
    }

    /** The least cost, and of its alignments the first one by the steps p (pair), q (gap second), r (gap first). */
    private Row best(List<Integer> first, List<Integer> second) {
        return best(first, second, new HashMap<>());
    }

    private Row best(List<Integer> first, List<Integer> second, Map<List<Integer>, Row> known) {
        List<Integer> key = Arrays.asList(first.size(), second.size());
        if (known.containsKey(key)) {
            return known.get(key);
        }
        Row row = first.isEmpty() && second.isEmpty() ? new Row(0, "") : null;
        if (!first.isEmpty() && !second.isEmpty()) {
            row = better(row, "p", pairCost(first.get(0), second.get(0)), best(tail(first), tail(second), known));
        }
        if (!first.isEmpty()) {
            row = better(row, "q", 4, best(tail(first), second, known));
        }
        if (!second.isEmpty()) {
            row = better(row, "r", 4, best(first, tail(second), known));
        }
        known.put(key, row);
        return row;
    }

    private static List<Integer> tail(List<Integer> word) {
        return word.subList(1, word.size());
    }

    private static Row better(Row row, String step, int cost, Row rest) {
        Row next = new Row(cost + rest.cost, step + rest.steps);
        boolean keep = row != null
            && (row.cost < next.cost || row.cost == next.cost && row.steps.compareTo(next.steps) < 0);
        return keep ? row : next;
    }

    private int pairCost(int one, int other) {
        int cost = one == other ? 0 : 1;
        for (int f = 0; f < 6; f++) {
            cost += (features[one] & 1 << f) != (features[other] & 1 << f) ? 1 : 0;
        }
        return cost;
    }

    private List<int[]> table(int meaning, int one, int other) {
        return table(wordOf(one, meaning), wordOf(other, meaning));
    }

    private List<int[]> table(List<Integer> first, List<Integer> second) {
        List<int[]> table = new ArrayList<>();
        if (first.isEmpty() || second.isEmpty()) {
            return table;
        }
        int i = 0;
        int j = 0;
        for (char step : best(first, second).steps.toCharArray()) {
            int upper = step == 'r' ? -1 : first.get(i++);
            int lower = step == 'q' ? -1 : second.get(j++);
            table.add(new int[] {upper, lower});
        }
        return table;
    }

    private long[] farParts(int one, int other) {
        long sum = 0;
        long count = 0;
        for (int meaning = 0; meaning < 12; meaning++) {
            int least = cost(meaning, one, other);
            sum += least < 0 ? 0 : least;
            count += least < 0 ? 0 : 1;
        }
        return new long[] {sum, count};
    }

    private List<Integer> recall(int language, int meaning) {
        List<Integer> daughters = new ArrayList<>();
        for (int each = 0; each < parents.size(); each++) {
            if (parents.get(each) == language && kin(meaning, language, each)) {
                daughters.add(each);
            }
        }
        List<Integer> found = new ArrayList<>();
        if (daughters.isEmpty()) {
            return found;
        }
        List<Integer> first = wordOf(daughters.get(0), meaning);
        for (int at = 0; at < first.size(); at++) {
            int[] votes = new int[17];
            votes[first.get(at)]++;
            for (int daughter : daughters.subList(1, daughters.size())) {
                int said = standsAt(table(first, wordOf(daughter, meaning)), at);
                votes[said < 0 ? 16 : said]++;
            }
            int winner = 0;
            for (int sign = 1; sign <= 16; sign++) {
                winner = votes[sign] > votes[winner] ? sign : winner;
            }
            if (winner < 16) {
                found.add(winner);
            }
        }
        return found;
    }

    private static int standsAt(List<int[]> table, int at) {
        int seen = -1;
        for (int[] pair : table) {
            seen += pair[0] >= 0 ? 1 : 0;
            if (pair[0] >= 0 && seen == at) {
                return pair[1];
            }
        }
        throw new AssertionError("a sound without its column");
    }
}
