import java.math.BigInteger;
import java.util.ArrayDeque;
import java.util.ArrayList;
import java.util.Arrays;
import java.util.Comparator;
import java.util.HashMap;
import java.util.List;
import java.util.Map;
import java.util.TreeMap;
import java.util.TreeSet;
import java.util.function.BiPredicate;
import java.util.function.IntPredicate;
import java.util.regex.Pattern;

/**
 * The document once more, written as plainly as the Java library allows and without regard to
 * the program: AgainstReferenceTest compares the two over many runs of calls.
 */
final class Reference {
    static final int UNKNOWN = -1, BAD = -2, LATE = -3, FULL = -4, NONE = -9;

    record Horse(int keeps, int[] weighs, int speed, int age, int least) { }

    record Rider(int[] truth, int taste) { }

    /** Who is with whom (riders to horses), what they are dressed by, oats. */
    static final class Stand {
        final TreeMap<Integer, Integer> own = new TreeMap<>();
        final HashMap<Integer, int[]> extra = new HashMap<>();
        int oats = 0;

        Stand copy() {
            Stand other = new Stand();
            other.own.putAll(own);
            extra.forEach((r, row) -> other.extra.put(r, row.clone()));
            other.oats = oats;
            return other;
        }
    }

    private String text = "";
    private List<Horse> horses = new ArrayList<>();
    private List<Rider> riders = new ArrayList<>();
    private Stand now = new Stand();
    private final ArrayDeque<Stand> acts = new ArrayDeque<>();
    private final List<int[]> choices = new ArrayList<>();
    private final Stand[] slots = new Stand[2];
    private BigInteger seed = BigInteger.ZERO;

    // ---- the text

    private static final Pattern FAIR =
            Pattern.compile("F(H[1-3][0-3]{3}[0-9][0-9]([0-7][0-9]|8[01])|R[0-9]{3}[0-3])*");

    private static boolean isFair(String text) {
        // No other byte of a fair is an H or an R.
        return FAIR.matcher(text).matches()
                && text.chars().filter(c -> c == 'H').count() <= 4
                && text.chars().filter(c -> c == 'R').count() <= 5;
    }

    private static boolean canBecomeFair(String text) {
        if (text.isEmpty() || isFair(text)) {
            return true;
        }
        for (String part : new String[] {"H10000000", "R0000"}) {
            for (int from = 1; from < part.length(); from++) {
                if (isFair(text + part.substring(from))) {
                    return true;
                }
            }
        }
        return false;
    }

    long write(int letter) {
        if (letter < 0 || letter > 255) {
            return BAD;
        }
        if (text.length() == 64) {
            return FULL;
        }
        text += (char) letter;
        return text.length();
    }

    long wipe() {
        int was = text.length();
        text = "";
        return was;
    }

    long fault() {
        for (int i = 0; i < text.length(); i++) {
            if (!canBecomeFair(text.substring(0, i + 1))) {
                return i;
            }
        }
        return isFair(text) ? NONE : text.length();
    }

    long fair() {
        if (!isFair(text)) {
            return LATE;
        }
        horses = new ArrayList<>();
        riders = new ArrayList<>();
        for (String part : text.substring(1).split("(?=[HR])")) {
            if (part.isEmpty()) {
                continue;
            }
            int[] f = part.substring(1).chars().map(c -> c - '0').toArray();
            if (part.charAt(0) == 'H') {
                horses.add(new Horse(f[0], new int[] {f[1], f[2], f[3]}, f[4], f[5], 10 * f[6] + f[7]));
            } else {
                riders.add(new Rider(new int[] {f[0], f[1], f[2]}, f[3]));
            }
        }
        now = new Stand();
        acts.clear();
        Arrays.fill(slots, null);
        return 10L * horses.size() + riders.size();
    }

    // ---- what all use

    private boolean noHorse(int h) {
        return h < 0 || h >= horses.size();
    }

    private boolean noRider(int r) {
        return r < 0 || r >= riders.size();
    }

    private int[] shown(int r) {
        int[] row = riders.get(r).truth().clone();
        int[] extra = now.extra.getOrDefault(r, new int[3]);
        for (int t = 0; t < 3; t++) {
            row[t] = Math.min(9, row[t] + extra[t]);
        }
        return row;
    }

    private static int figures(int[] row) {
        return Integer.parseInt("" + row[0] + row[1] + row[2]);
    }

    private int value(int h, int r) {
        int[] row = shown(r);
        int sum = 0;
        for (int t = 0; t < 3; t++) {
            sum += row[t] * horses.get(h).weighs()[t];
        }
        return sum;
    }

    private boolean enough(int h, int r) {
        return value(h, r) >= horses.get(h).least();
    }

    /** The best one first. */
    private Comparator<Integer> eyesOfHorse(int h) {
        return Comparator.<Integer>comparingInt(r -> -value(h, r)).thenComparing(Comparator.naturalOrder());
    }

    private Comparator<Integer> eyesOfRider(int r) {
        Comparator<Integer> eyes = switch (riders.get(r).taste()) {
            case 0 -> Comparator.comparingInt(h -> -horses.get(h).speed());
            case 1 -> Comparator.comparingInt(h -> horses.get(h).age());
            case 2 -> Comparator.comparingInt(h -> -horses.get(h).age());
            default -> Comparator.comparingInt(h -> horses.get(h).speed());
        };
        return eyes.thenComparing(Comparator.naturalOrder());
    }

    private List<Integer> horseNumbers() {
        List<Integer> all = new ArrayList<>();
        for (int h = 0; h < horses.size(); h++) {
            all.add(h);
        }
        return all;
    }

    private List<Integer> riderNumbers() {
        List<Integer> all = new ArrayList<>();
        for (int r = 0; r < riders.size(); r++) {
            all.add(r);
        }
        return all;
    }

    private static List<Integer> keptBy(Map<Integer, Integer> own, int h) {
        List<Integer> kept = new ArrayList<>();
        own.forEach((r, horse) -> {
            if (horse == h) {
                kept.add(r);
            }
        });
        return kept;
    }

    private static long bits(Iterable<Integer> numbers) {
        long sum = 0;
        for (int i : numbers) {
            sum += 1L << i;
        }
        return sum;
    }

    private boolean ledTo(Map<Integer, Integer> own, int r, int h) {
        if (!enough(h, r)) {
            return false;
        }
        List<Integer> kept = keptBy(own, h);
        kept.add(r);
        own.put(r, h);
        kept.sort(eyesOfHorse(h));
        if (kept.size() > horses.get(h).keeps()) {
            own.remove(kept.get(kept.size() - 1));
        }
        return own.containsKey(r);
    }

    private boolean boltPair(Map<Integer, Integer> own, int r, int h) {
        if (!enough(h, r)) {
            return false;
        }
        if (own.containsKey(r) && eyesOfRider(r).compare(h, own.get(r)) >= 0) {
            return false;
        }
        List<Integer> kept = keptBy(own, h);
        return kept.size() < horses.get(h).keeps()
                || kept.stream().anyMatch(other -> eyesOfHorse(h).compare(r, other) < 0);
    }

    // ---- the fair

    long about(int what) {
        switch (what) {
            case 0: return horses.size();
            case 1: return riders.size();
            case 2: return bits(now.own.keySet());
            case 3: return now.oats;
            case 4: return acts.size();
            case 5: return choices.size();
            case 6: return text.length();
            case 7:
                long pairs = 0;
                for (int r : riderNumbers()) {
                    pairs += horseNumbers().stream().filter(h -> boltPair(now.own, r, h)).count();
                }
                return pairs;
            default: return BAD;
        }
    }

    long horse(int h, int what) {
        if (noHorse(h)) {
            return UNKNOWN;
        }
        Horse told = horses.get(h);
        switch (what) {
            case 0: return told.keeps();
            case 1: return figures(told.weighs());
            case 2: return told.speed();
            case 3: return told.age();
            case 4: return told.least();
            case 5: return bits(keptBy(now.own, h));
            default: return BAD;
        }
    }

    long rider(int r, int what) {
        if (noRider(r)) {
            return UNKNOWN;
        }
        switch (what) {
            case 0: return figures(riders.get(r).truth());
            case 1: return figures(shown(r));
            case 2: return riders.get(r).taste();
            case 3: return now.own.getOrDefault(r, NONE);
            case 4: return horseNumbers().stream().min(eyesOfRider(r)).orElse(NONE);
            default: return BAD;
        }
    }

    long worth(int h, int r) {
        return noHorse(h) || noRider(r) ? UNKNOWN : value(h, r);
    }

    // ---- acts

    private void act() {
        acts.addLast(now.copy());
        if (acts.size() > 14) {
            acts.removeFirst();
        }
    }

    long lead(int r, int h) {
        if (noRider(r) || noHorse(h)) {
            return UNKNOWN;
        }
        if (now.own.containsKey(r)) {
            return LATE;
        }
        act();
        return ledTo(now.own, r, h) ? 1 : 0;
    }

    long dress(int r, int trait) {
        if (noRider(r)) {
            return UNKNOWN;
        }
        if (trait < 0 || trait > 2) {
            return BAD;
        }
        if (shown(r)[trait] == 9) {
            return FULL;
        }
        act();
        now.extra.computeIfAbsent(r, none -> new int[3])[trait]++;
        now.oats++;
        return shown(r)[trait];
    }

    long giveBack(int r) {
        if (noRider(r)) {
            return UNKNOWN;
        }
        if (!now.own.containsKey(r)) {
            return LATE;
        }
        act();
        return now.own.remove(r);
    }

    long bell() {
        act();
        now.extra.clear();
        List<Integer> given = new ArrayList<>();
        now.own.forEach((r, h) -> {
            if (!enough(h, r)) {
                given.add(r);
            }
        });
        given.forEach(now.own::remove);
        return bits(given);
    }

    long undo() {
        if (acts.isEmpty()) {
            return LATE;
        }
        now = acts.removeLast();
        return acts.size();
    }

    // ---- what holds

    long bolts(int r, int h) {
        return noRider(r) || noHorse(h) ? UNKNOWN : boltPair(now.own, r, h) ? 1 : 0;
    }

    private Map<Integer, Integer> heldByRiders(IntPredicate comes) {
        Map<Integer, Integer> own = new TreeMap<>();
        Map<Integer, List<Integer>> open = new HashMap<>();
        for (int r : riderNumbers()) {
            List<Integer> wishes = comes.test(r) ? horseNumbers() : new ArrayList<>();
            wishes.sort(eyesOfRider(r));
            open.put(r, wishes);
        }
        while (true) {
            int least = riderNumbers().stream()
                    .filter(r -> !own.containsKey(r) && !open.get(r).isEmpty()).findFirst().orElse(NONE);
            if (least == NONE) {
                return own;
            }
            ledTo(own, least, open.get(least).remove(0));
        }
    }

    private Map<Integer, Integer> heldByHorses() {
        Map<Integer, Integer> own = new TreeMap<>();
        Map<Integer, List<Integer>> open = new HashMap<>();
        for (int h : horseNumbers()) {
            List<Integer> wishes = riderNumbers();
            wishes.removeIf(r -> !enough(h, r));
            wishes.sort(eyesOfHorse(h));
            open.put(h, wishes);
        }
        while (true) {
            int least = horseNumbers().stream()
                    .filter(h -> keptBy(own, h).size() < horses.get(h).keeps() && !open.get(h).isEmpty())
                    .findFirst().orElse(NONE);
            if (least == NONE) {
                return own;
            }
            int asked = open.get(least).remove(0);
            if (!own.containsKey(asked) || eyesOfRider(asked).compare(least, own.get(asked)) < 0) {
                own.put(asked, least);
            }
        }
    }

    long held(int r, boolean byHorses) {
        if (noRider(r)) {
            return UNKNOWN;
        }
        return (byHorses ? heldByHorses() : heldByRiders(all -> true)).getOrDefault(r, NONE);
    }

    /** All ways that fit, in their order, with what each pair may be. */
    private List<Map<Integer, Integer>> waysOf(BiPredicate<Integer, Integer> may) {
        List<Map<Integer, Integer>> ways = new ArrayList<>();
        addWays(0, new TreeMap<>(), may, ways);
        return ways;
    }

    private void addWays(int r, Map<Integer, Integer> own, BiPredicate<Integer, Integer> may,
            List<Map<Integer, Integer>> ways) {
        if (r == riders.size()) {
            ways.add(new TreeMap<>(own));
            return;
        }
        for (int h : horseNumbers()) {
            if (may.test(h, r) && keptBy(own, h).size() < horses.get(h).keeps()) {
                own.put(r, h);
                addWays(r + 1, own, may, ways);
                own.remove(r);
            }
        }
        addWays(r + 1, own, may, ways);
    }

    private List<Map<Integer, Integer>> holding() {
        List<Map<Integer, Integer>> ways = waysOf(this::enough);
        ways.removeIf(own -> riderNumbers().stream()
                .anyMatch(r -> horseNumbers().stream().anyMatch(h -> boltPair(own, r, h))));
        return ways;
    }

    long holds() {
        return holding().size();
    }

    long sure(int r) {
        if (noRider(r)) {
            return UNKNOWN;
        }
        TreeSet<Integer> found = new TreeSet<>();
        holding().forEach(own -> found.add(own.getOrDefault(r, 9)));
        return found.size() == 1 ? found.first() : NONE;
    }

    long forged(int r, int h, int what) {
        if (noRider(r) || noHorse(h)) {
            return UNKNOWN;
        }
        if (what < 0 || what > 1) {
            return BAD;
        }
        Stand before = now;
        long best = Long.MAX_VALUE;
        int[] shows = shown(r);
        for (int a = 0; shows[0] + a <= 9; a++) {
            for (int b = 0; shows[1] + b <= 9; b++) {
                for (int c = 0; shows[2] + c <= 9; c++) {
                    now = before.copy();
                    int[] extra = now.extra.computeIfAbsent(r, none -> new int[3]);
                    extra[0] += a;
                    extra[1] += b;
                    extra[2] += c;
                    if (heldByRiders(all -> true).getOrDefault(r, NONE) == h) {
                        best = Math.min(best, 1000L * (a + b + c) + 100 * a + 10 * b + c);
                    }
                }
            }
        }
        now = before;
        return best == Long.MAX_VALUE ? NONE : what == 0 ? best / 1000 : best % 1000;
    }

    long left() {
        Map<Integer, Integer> own = heldByRiders(all -> true);
        List<Integer> open = horseNumbers();
        open.removeIf(h -> keptBy(own, h).size() == horses.get(h).keeps());
        return bits(open);
    }

    private long points(Map<Integer, Integer> own) {
        long sum = 0;
        for (Map.Entry<Integer, Integer> pair : own.entrySet()) {
            sum += horses.get(pair.getValue()).speed() + value(pair.getValue(), pair.getKey()) / 10;
        }
        return sum;
    }

    private Map<Integer, Integer> bestRace() {
        Map<Integer, Integer> best = null;
        for (Map<Integer, Integer> own : waysOf((h, r) -> true)) {
            if (best == null || points(own) > points(best)) {
                best = own;
            }
        }
        return best;
    }

    long race() {
        return points(bestRace());
    }

    long raceOf(int r) {
        return noRider(r) ? UNKNOWN : bestRace().getOrDefault(r, 9);
    }

    // ---- learnt, bid, worn

    long choose(int i, int j) {
        if (noRider(i) || noRider(j)) {
            return UNKNOWN;
        }
        if (i == j) {
            return BAD;
        }
        if (choices.size() == 6) {
            return FULL;
        }
        choices.add(new int[] {i, j});
        return choices.size();
    }

    long unchoose() {
        int were = choices.size();
        choices.clear();
        return were;
    }

    private boolean likesBy(int[] weighs, int i, int j) {
        int of = 0;
        for (int t = 0; t < 3; t++) {
            of += weighs[t] * (riders.get(i).truth()[t] - riders.get(j).truth()[t]);
        }
        return of > 0 || of == 0 && i < j;
    }

    private List<int[]> learntWays() {
        List<int[]> ways = new ArrayList<>();
        for (int x = 0; x < 4; x++) {
            for (int y = 0; y < 4; y++) {
                for (int z = 0; z < 4; z++) {
                    ways.add(new int[] {x, y, z});
                }
            }
        }
        ways.removeIf(way -> choices.stream()
                .anyMatch(c -> !noRider(c[0]) && !noRider(c[1]) && !likesBy(way, c[0], c[1])));
        return ways;
    }

    long learnt(int what) {
        List<int[]> ways = learntWays();
        switch (what) {
            case 0: return ways.size();
            case 1: return ways.isEmpty() ? NONE : figures(ways.get(0));
            default: return BAD;
        }
    }

    long next() {
        List<int[]> ways = learntWays();
        if (ways.isEmpty() || riders.size() < 2) {
            return NONE;
        }
        TreeMap<Long, Integer> pairs = new TreeMap<>();
        for (int i : riderNumbers()) {
            for (int j : riderNumbers()) {
                if (i < j) {
                    long part = ways.stream().filter(way -> likesBy(way, i, j)).count();
                    pairs.putIfAbsent(Math.max(part, ways.size() - part), 10 * i + j);
                }
            }
        }
        return pairs.firstEntry().getValue();
    }

    private int gain(int h, int me, int mine, int you, int yours) {
        int my = value(h, me) + 5 * mine;
        int your = value(h, you) + 5 * yours;
        return (my > your || my == your && me < you ? 6 : 0) - mine;
    }

    long oats(int h, int i, int j, int what) {
        if (noHorse(h) || noRider(i) || noRider(j)) {
            return UNKNOWN;
        }
        if (i == j || what < 0 || what > 1) {
            return BAD;
        }
        List<Integer> rests = new ArrayList<>();
        for (int a = 0; a < 6; a++) {
            for (int b = 0; b < 6; b++) {
                int bestOfI = NONE;
                int bestOfJ = NONE;
                for (int other = 0; other < 6; other++) {
                    bestOfI = Math.max(bestOfI, gain(h, i, other, j, b));
                    bestOfJ = Math.max(bestOfJ, gain(h, j, other, i, a));
                }
                if (gain(h, i, a, j, b) == bestOfI && gain(h, j, b, i, a) == bestOfJ) {
                    rests.add(10 * a + b);
                }
            }
        }
        return what == 0 ? rests.size() : rests.isEmpty() ? NONE : rests.get(0);
    }

    long saddles(int h, int trait, int v, int what) {
        if (noHorse(h)) {
            return UNKNOWN;
        }
        if (trait < 0 || trait > 2 || v < 0 || v > 27 || what < 0 || what > 1) {
            return BAD;
        }
        List<List<Integer>> sets = new ArrayList<>();
        sets.add(new ArrayList<>());
        for (int r : riderNumbers()) {
            for (List<Integer> set : new ArrayList<>(sets)) {
                List<Integer> more = new ArrayList<>(set);
                more.add(r);
                sets.add(more);
            }
        }
        sets.removeIf(set -> set.size() > horses.get(h).keeps() || set.stream().anyMatch(r -> !enough(h, r))
                || set.stream().mapToInt(r -> riders.get(r).truth()[trait]).sum() != v);
        if (what == 0) {
            return sets.size();
        }
        if (sets.isEmpty()) {
            return NONE;
        }
        List<Integer> ofAll = riderNumbers();
        sets.forEach(ofAll::retainAll);
        return bits(ofAll);
    }

    // ---- chances

    long chance(int r, int h, int x, boolean upper) {
        if (noRider(r) || noHorse(h)) {
            return UNKNOWN;
        }
        if (x < 0 || x > 10) {
            return BAD;
        }
        BigInteger above = BigInteger.ZERO;
        int n = riders.size();
        for (int set = 0; set < 1 << n; set++) {
            int coming = set;
            if (heldByRiders(one -> (coming >> one & 1) == 1).getOrDefault(r, NONE) == h) {
                int come = Integer.bitCount(set);
                above = above.add(BigInteger.valueOf(x).pow(come)
                        .multiply(BigInteger.valueOf(10 - x).pow(n - come)));
            }
        }
        BigInteger below = BigInteger.TEN.pow(n);
        BigInteger both = above.gcd(below);
        return (upper ? above : below).divide(both).longValueExact();
    }

    long seed(long v) {
        long was = seed.longValue();
        seed = BigInteger.valueOf(v).mod(BigInteger.ONE.shiftLeft(64));
        return was;
    }

    long days(int m) {
        if (m < 1 || m > 40) {
            return BAD;
        }
        if (horses.isEmpty() || riders.isEmpty()) {
            return 0;
        }
        Map<Integer, Integer> own = new TreeMap<>(now.own);
        for (int day = 0; day < m; day++) {
            seed = seed.multiply(new BigInteger("6364136223846793005")).add(new BigInteger("1442695040888963407"))
                    .mod(BigInteger.ONE.shiftLeft(64));
            int drawn = seed.shiftRight(33).mod(BigInteger.valueOf((long) riders.size() * horses.size())).intValue();
            int r = drawn / horses.size();
            if (!own.containsKey(r)) {
                ledTo(own, r, drawn % horses.size());
            }
        }
        return bits(own.keySet());
    }

    // ---- slots

    long keep(int slot) {
        if (slot < 0 || slot > 1) {
            return UNKNOWN;
        }
        slots[slot] = now.copy();
        return now.own.size();
    }

    long again(int slot) {
        if (slot < 0 || slot > 1) {
            return UNKNOWN;
        }
        if (slots[slot] == null) {
            return LATE;
        }
        now = slots[slot].copy();
        acts.clear();
        return now.own.size();
    }
}
