import java.util.Arrays;

/** A fair at which riders are led round and horses take whom they will. */
public final class HorsesChoose {
    public static final int UNKNOWN = -1, BAD = -2, LATE = -3, FULL = -4, NONE = -9;

    private static final int MOST_HORSES = 4;
    private static final int MOST_RIDERS = 5;
    private static final int MOST_PAIRS = MOST_HORSES * MOST_RIDERS;
    private static final int TRAITS = 3;
    private static final int MOST_SHOWN = 9;
    private static final int MOST_TOGETHER = TRAITS * MOST_SHOWN;
    private static final int MOST_BID = 5;
    private static final int OAT_WORTH = 5;
    private static final int PRIZE = 6;
    private static final int MOST_DAYS = 40;
    private static final int SLOTS = 2;
    private static final int NO_HORSE = 9;
    private static final long SEED_TIMES = 6364136223846793005L;
    private static final long SEED_MORE = 1442695040888963407L;

    private final Text text;
    private final Fair ground;
    private final State state;
    private final Acts acts;
    private final State[] slots;
    private final Choices choices;
    private final Worths worths;
    private final Market market;
    private final Ways ways;
    private final Bids bids;
    private final Way spare;
    private long seedNow;

    public HorsesChoose() {
        text = new Text();
        ground = new Fair();
        state = new State();
        acts = new Acts();
        slots = new State[SLOTS];
        for (int i = 0; i < slots.length; i++) {
            slots[i] = new State();
        }
        choices = new Choices();
        worths = new Worths(ground);
        market = new Market(ground, worths);
        ways = new Ways(ground, worths);
        bids = new Bids();
        spare = new Way();
        seedNow = 0;
    }

    // ---- the fair

    public int write(int letter) {
        if (letter < 0 || letter > 255) {
            return BAD;
        }
        return text.add(letter) ? text.length : FULL;
    }

    public int wipe() {
        int was = text.length;
        text.length = 0;
        return was;
    }

    public int fault() {
        return text.firstFault();
    }

    public int fair() {
        if (text.firstFault() != NONE) {
            return LATE;
        }
        ground.readFrom(text);
        state.clear();
        acts.count = 0;
        emptySlots();
        return 10 * ground.horses + ground.riders;
    }

    public int about(int what) {
        switch (what) {
            case 0: return ground.horses;
            case 1: return ground.riders;
            case 2: return state.way.takenBits();
            case 3: return state.oatsSpent;
            case 4: return acts.count;
            case 5: return choices.count;
            case 6: return text.length;
            case 7: return boltingPairs();
            default: return BAD;
        }
    }

    public int horse(int horse, int what) {
        if (!ground.hasHorse(horse)) {
            return UNKNOWN;
        }
        switch (what) {
            case 0: return at(ground.keeps, horse);
            case 1: return asFigures(ground.weighs, horse);
            case 2: return at(ground.speed, horse);
            case 3: return at(ground.age, horse);
            case 4: return at(ground.least, horse);
            case 5: return state.way.keptBits(horse);
            default: return BAD;
        }
    }

    public int rider(int rider, int what) {
        if (!ground.hasRider(rider)) {
            return UNKNOWN;
        }
        switch (what) {
            case 0: return asFigures(ground.truth, rider);
            case 1: return shownFigures(rider);
            case 2: return at(ground.taste, rider);
            case 3: return state.way.horseOf(rider);
            case 4: return ground.likedAs(rider, 0);
            default: return BAD;
        }
    }

    public int worth(int horse, int rider) {
        if (!ground.hasHorse(horse) || !ground.hasRider(rider)) {
            return UNKNOWN;
        }
        worths.weigh(state);
        return worths.of(horse, rider);
    }

    // ---- acts

    public int lead(int rider, int horse) {
        if (!ground.hasRider(rider) || !ground.hasHorse(horse)) {
            return UNKNOWN;
        }
        if (state.way.horseOf(rider) != NONE) {
            return LATE;
        }
        acts.remember(state);
        worths.weigh(state);
        return state.way.leadTo(rider, horse, worths) ? 1 : 0;
    }

    public int dress(int rider, int trait) {
        if (!ground.hasRider(rider)) {
            return UNKNOWN;
        }
        if (!isTrait(trait)) {
            return BAD;
        }
        if (shown(rider, trait) >= MOST_SHOWN) {
            return FULL;
        }
        acts.remember(state);
        int place = TRAITS * rider + trait;
        put(state.dressed, place, at(state.dressed, place) + 1);
        state.oatsSpent++;
        return shown(rider, trait);
    }

    public int giveBack(int rider) {
        if (!ground.hasRider(rider)) {
            return UNKNOWN;
        }
        int own = state.way.horseOf(rider);
        if (own == NONE) {
            return LATE;
        }
        acts.remember(state);
        state.way.set(rider, NONE);
        return own;
    }

    public int bell() {
        acts.remember(state);
        Arrays.fill(state.dressed, 0);
        worths.weigh(state);
        int given = 0;
        for (int r = 0; r < ground.riders; r++) {
            int own = state.way.horseOf(r);
            if (own != NONE && !worths.enough(own, r)) {
                state.way.set(r, NONE);
                given |= 1 << r;
            }
        }
        return given;
    }

    public int undo() {
        return acts.bringBack(state) ? acts.count : LATE;
    }

    // ---- what holds

    public int bolts(int rider, int horse) {
        if (!ground.hasRider(rider) || !ground.hasHorse(horse)) {
            return UNKNOWN;
        }
        worths.weigh(state);
        return state.way.boltsWith(rider, horse, worths) ? 1 : 0;
    }

    public int held(int rider, boolean byHorses) {
        if (!ground.hasRider(rider)) {
            return UNKNOWN;
        }
        worths.weigh(state);
        if (byHorses) {
            market.holdByHorses();
        } else {
            market.holdByRiders(ground.allRiders());
        }
        return market.way.horseOf(rider);
    }

    public int holds() {
        worths.weigh(state);
        ways.findHolding();
        return ways.holding;
    }

    public int sure(int rider) {
        if (!ground.hasRider(rider)) {
            return UNKNOWN;
        }
        worths.weigh(state);
        ways.findHolding();
        if (contains(ways.unsure, rider)) {
            return NONE;
        }
        int own = ways.first.horseOf(rider);
        return own == NONE ? NO_HORSE : own;
    }

    public int forged(int rider, int horse, int what) {
        if (!ground.hasRider(rider) || !ground.hasHorse(horse)) {
            return UNKNOWN;
        }
        if (what != 0 && what != 1) {
            return BAD;
        }
        worths.weigh(state);
        int best = NONE;
        int fewest = MOST_TOGETHER + 1;
        for (int figures = 0; figures <= 999; figures++) {
            int spent = figures / 100 + figures / 10 % 10 + figures % 10;
            if (spent < fewest && hasWhenForged(rider, horse, figures)) {
                fewest = spent;
                best = figures;
            }
        }
        return best == NONE || what == 1 ? best : fewest;
    }

    public int left() {
        worths.weigh(state);
        market.holdByRiders(ground.allRiders());
        int bits = 0;
        for (int h = 0; h < ground.horses; h++) {
            if (market.way.keptCount(h) < at(ground.keeps, h)) {
                bits |= 1 << h;
            }
        }
        return bits;
    }

    public int race() {
        worths.weigh(state);
        ways.findRace();
        return ways.mostPoints;
    }

    public int raceOf(int rider) {
        if (!ground.hasRider(rider)) {
            return UNKNOWN;
        }
        worths.weigh(state);
        ways.findRace();
        int own = ways.first.horseOf(rider);
        return own == NONE ? NO_HORSE : own;
    }

    // ---- learnt, bid, worn

    public int choose(int i, int j) {
        if (!ground.hasRider(i) || !ground.hasRider(j)) {
            return UNKNOWN;
        }
        if (i == j) {
            return BAD;
        }
        return choices.add(i, j) ? choices.count : FULL;
    }

    public int unchoose() {
        int were = choices.count;
        choices.count = 0;
        return were;
    }

    public int learnt(int what) {
        if (what != 0 && what != 1) {
            return BAD;
        }
        long learntWays = choices.learntBits(ground);
        return what == 0 ? Long.bitCount(learntWays) : Choices.leastFigures(learntWays);
    }

    public int next() {
        long learntWays = choices.learntBits(ground);
        if (learntWays == 0) {
            return NONE;
        }
        int all = Long.bitCount(learntWays);
        int leastPart = all + 1;
        int best = NONE;
        for (int i = 0; i < ground.riders; i++) {
            for (int j = i + 1; j < ground.riders; j++) {
                int part = Long.bitCount(learntWays & choices.likingBits(ground, i, j));
                int greater = Math.max(part, all - part);
                if (greater < leastPart) {
                    leastPart = greater;
                    best = 10 * i + j;
                }
            }
        }
        return best;
    }

    public int oats(int horse, int i, int j, int what) {
        if (!ground.hasHorse(horse) || !ground.hasRider(i) || !ground.hasRider(j)) {
            return UNKNOWN;
        }
        if (i == j || (what != 0 && what != 1)) {
            return BAD;
        }
        worths.weigh(state);
        bids.findRests(worths.of(horse, i), worths.of(horse, j), i < j);
        return what == 0 ? bids.rests : bids.firstRest;
    }

    public int saddles(int horse, int trait, int v, int what) {
        if (!ground.hasHorse(horse)) {
            return UNKNOWN;
        }
        if (!isTrait(trait) || v < 0 || v > MOST_TOGETHER || (what != 0 && what != 1)) {
            return BAD;
        }
        worths.weigh(state);
        int count = 0;
        int ofAll = ground.allRiders();
        for (int set = 0; set <= ground.allRiders(); set++) {
            if (couldWear(set, horse) && truthTogether(set, trait) == v) {
                count++;
                ofAll &= set;
            }
        }
        if (what == 0) {
            return count;
        }
        return count == 0 ? NONE : ofAll;
    }

    // ---- chances

    public int chance(int rider, int horse, int x, boolean upper) {
        if (!ground.hasRider(rider) || !ground.hasHorse(horse)) {
            return UNKNOWN;
        }
        if (x < 0 || x > 10) {
            return BAD;
        }
        worths.weigh(state);
        int above = 0;
        int below = 1;
        for (int r = 0; r < ground.riders; r++) {
            below *= 10;
        }
        for (int coming = 0; coming <= ground.allRiders(); coming++) {
            if (contains(coming, rider)) {
                market.holdByRiders(coming);
                if (market.way.horseOf(rider) == horse) {
                    above += chanceOfSet(coming, x);
                }
            }
        }
        int divisor = Math.max(1, greatestDivisor(above, below));
        return (upper ? above : below) / divisor;
    }

    public long seed(long v) {
        long was = seedNow;
        seedNow = v;
        return was;
    }

    public int days(int m) {
        if (m < 1 || m > MOST_DAYS) {
            return BAD;
        }
        int pairs = ground.riders * ground.horses;
        if (pairs <= 0) {
            return 0;
        }
        int horses = Math.max(1, ground.horses);
        worths.weigh(state);
        spare.copyFrom(state.way);
        for (int day = 0; day < m; day++) {
            seedNow = seedNow * SEED_TIMES + SEED_MORE;
            int drawn = (int) ((seedNow >>> 33) % pairs);
            int rider = drawn / horses;
            if (spare.horseOf(rider) == NONE) {
                spare.leadTo(rider, drawn % horses, worths);
            }
        }
        return spare.takenBits();
    }

    // ---- slots

    public int keep(int slot) {
        State kept = slotOf(slot);
        if (kept == null) {
            return UNKNOWN;
        }
        kept.copyFrom(state);
        kept.filled = true;
        return Integer.bitCount(state.way.takenBits());
    }

    public int again(int slot) {
        State kept = slotOf(slot);
        if (kept == null) {
            return UNKNOWN;
        }
        if (!kept.filled) {
            return LATE;
        }
        state.copyFrom(kept);
        acts.count = 0;
        return Integer.bitCount(state.way.takenBits());
    }

    // ---- helpers of the face

    private static int at(int[] row, int i) {
        return i >= 0 && i < row.length ? row[i] : 0;
    }

    private static void put(int[] row, int i, int value) {
        if (i >= 0 && i < row.length) {
            row[i] = value;
        }
    }

    private static boolean contains(int set, int i) {
        return (set >> i & 1) == 1;
    }

    private static boolean isTrait(int trait) {
        return trait >= 0 && trait < TRAITS;
    }

    private static int asFigures(int[] row, int owner) {
        int first = TRAITS * owner;
        return 100 * at(row, first) + 10 * at(row, first + 1) + at(row, first + 2);
    }

    private static int greatestDivisor(int a, int b) {
        int x = a;
        int y = b;
        for (int step = 0; step < 64 && y != 0; step++) {
            int rest = x % y;
            x = y;
            y = rest;
        }
        return x;
    }

    private int shown(int rider, int trait) {
        int place = TRAITS * rider + trait;
        return at(ground.truth, place) + at(state.dressed, place);
    }

    private int shownFigures(int rider) {
        return 100 * shown(rider, 0) + 10 * shown(rider, 1) + shown(rider, 2);
    }

    private int boltingPairs() {
        worths.weigh(state);
        int pairs = 0;
        for (int r = 0; r < ground.riders; r++) {
            for (int h = 0; h < ground.horses; h++) {
                if (state.way.boltsWith(r, h, worths)) {
                    pairs++;
                }
            }
        }
        return pairs;
    }

    private boolean hasWhenForged(int rider, int horse, int figures) {
        int a = shown(rider, 0) + figures / 100;
        int b = shown(rider, 1) + figures / 10 % 10;
        int c = shown(rider, 2) + figures % 10;
        if (a > MOST_SHOWN || b > MOST_SHOWN || c > MOST_SHOWN) {
            return false;
        }
        worths.weighRider(rider, a, b, c);
        // Most forgings end here: the market need not be run for them.
        if (!worths.enough(horse, rider)) {
            return false;
        }
        market.holdByRiders(ground.allRiders());
        return market.way.horseOf(rider) == horse;
    }

    private boolean couldWear(int set, int horse) {
        if (Integer.bitCount(set) > at(ground.keeps, horse)) {
            return false;
        }
        for (int r = 0; r < ground.riders; r++) {
            if (contains(set, r) && !worths.enough(horse, r)) {
                return false;
            }
        }
        return true;
    }

    private int truthTogether(int set, int trait) {
        int sum = 0;
        for (int r = 0; r < ground.riders; r++) {
            if (contains(set, r)) {
                sum += at(ground.truth, TRAITS * r + trait);
            }
        }
        return sum;
    }

    /** Out of 10 to the number of riders: that just these come. */
    private int chanceOfSet(int coming, int x) {
        int product = 1;
        for (int r = 0; r < ground.riders; r++) {
            product *= contains(coming, r) ? x : 10 - x;
        }
        return product;
    }

    private void emptySlots() {
        for (int slot = 0; slot < SLOTS; slot++) {
            State kept = slotOf(slot);
            if (kept != null) {
                kept.filled = false;
            }
        }
    }

    private State slotOf(int slot) {
        return slot >= 0 && slot < slots.length ? slots[slot] : null;
    }

    /** The bytes that were written, and the rules by which they are a fair. */
    private static final class Text {
        private static final int MOST_BYTES = 64;
        private static final int HORSE_SIZE = 9;
        private static final int RIDER_SIZE = 5;
        private static final int[] MOST_OF_HORSE = {0, 3, 3, 3, 3, 9, 9, 8, 9};
        private static final int[] MOST_OF_RIDER = {0, 9, 9, 9, 3};

        private final int[] bytes = new int[MOST_BYTES];
        private int length;

        boolean add(int letter) {
            if (length >= MOST_BYTES) {
                return false;
            }
            put(bytes, length, letter);
            length++;
            return true;
        }

        int byteAt(int place) {
            return place < length ? at(bytes, place) : NONE;
        }

        int figureAt(int place) {
            return byteAt(place) - '0';
        }

        boolean isHorse(int place) {
            return byteAt(place) == 'H';
        }

        int partSize(int place) {
            return isHorse(place) ? HORSE_SIZE : RIDER_SIZE;
        }

        int firstFault() {
            if (byteAt(0) != 'F') {
                return 0;
            }
            int horsesLeft = MOST_HORSES;
            int ridersLeft = MOST_RIDERS;
            int place = 1;
            for (int part = 0; part < MOST_BYTES && place < length; part++) {
                if (isHorse(place) && horsesLeft > 0) {
                    horsesLeft--;
                } else if (byteAt(place) == 'R' && ridersLeft > 0) {
                    ridersLeft--;
                } else {
                    return place;
                }
                int wrong = firstFaultOfPart(place);
                if (wrong != NONE) {
                    return wrong;
                }
                place += partSize(place);
            }
            return NONE;
        }

        private int firstFaultOfPart(int start) {
            int size = partSize(start);
            for (int i = 1; i < size; i++) {
                if (start + i >= length) {
                    return length;
                }
                int figure = figureAt(start + i);
                if (figure < leastFigure(start, i) || figure > mostFigure(start, i)) {
                    return start + i;
                }
            }
            return NONE;
        }

        private int leastFigure(int start, int i) {
            return isHorse(start) && i == 1 ? 1 : 0;
        }

        private int mostFigure(int start, int i) {
            if (!isHorse(start)) {
                return at(MOST_OF_RIDER, i);
            }
            // The last figure belongs to the one before it: 81 is the most.
            boolean endsMost = i == HORSE_SIZE - 1 && figureAt(start + i - 1) == 8;
            return endsMost ? 1 : at(MOST_OF_HORSE, i);
        }
    }

    /** The horses and riders as the text told them. */
    private static final class Fair {
        private int horses;
        private int riders;
        private final int[] keeps = new int[MOST_HORSES];
        private final int[] weighs = new int[MOST_HORSES * TRAITS];
        private final int[] speed = new int[MOST_HORSES];
        private final int[] age = new int[MOST_HORSES];
        private final int[] least = new int[MOST_HORSES];
        private final int[] truth = new int[MOST_RIDERS * TRAITS];
        private final int[] taste = new int[MOST_RIDERS];
        private final int[] rank = new int[MOST_PAIRS];
        private final int[] byRank = new int[MOST_PAIRS];

        boolean hasHorse(int h) {
            return h >= 0 && h < horses;
        }

        boolean hasRider(int r) {
            return r >= 0 && r < riders;
        }

        int allRiders() {
            return (1 << riders) - 1;
        }

        void readFrom(Text text) {
            horses = 0;
            riders = 0;
            int place = 1;
            for (int part = 0; part < MOST_HORSES + MOST_RIDERS && place < text.length; part++) {
                if (text.isHorse(place)) {
                    readHorse(text, place);
                } else {
                    readRider(text, place);
                }
                place += text.partSize(place);
            }
            for (int r = 0; r < riders; r++) {
                rankHorses(r);
            }
        }

        private void readHorse(Text text, int start) {
            if (horses >= MOST_HORSES) {
                return;
            }
            put(keeps, horses, text.figureAt(start + 1));
            for (int t = 0; t < TRAITS; t++) {
                put(weighs, TRAITS * horses + t, text.figureAt(start + 2 + t));
            }
            put(speed, horses, text.figureAt(start + 5));
            put(age, horses, text.figureAt(start + 6));
            put(least, horses, 10 * text.figureAt(start + 7) + text.figureAt(start + 8));
            horses++;
        }

        private void readRider(Text text, int start) {
            if (riders >= MOST_RIDERS) {
                return;
            }
            for (int t = 0; t < TRAITS; t++) {
                put(truth, TRAITS * riders + t, text.figureAt(start + 1 + t));
            }
            put(taste, riders, text.figureAt(start + 4));
            riders++;
        }

        private void rankHorses(int r) {
            for (int h = 0; h < horses; h++) {
                int better = 0;
                for (int other = 0; other < horses; other++) {
                    int more = appeal(r, other) - appeal(r, h);
                    if (more > 0 || (more == 0 && other < h)) {
                        better++;
                    }
                }
                put(rank, MOST_HORSES * r + h, better);
                put(byRank, MOST_HORSES * r + better, h);
            }
        }

        private int appeal(int r, int h) {
            switch (at(taste, r)) {
                case 0: return at(speed, h);
                case 1: return -at(age, h);
                case 2: return at(age, h);
                default: return -at(speed, h);
            }
        }

        /** The horse that a rider likes best when so many are set aside. */
        int likedAs(int r, int aside) {
            return aside >= 0 && aside < horses ? at(byRank, MOST_HORSES * r + aside) : NONE;
        }

        /** Any horse is liked better than none. */
        boolean riderLikes(int r, int h, int own) {
            return own == NONE || at(rank, MOST_HORSES * r + h) < at(rank, MOST_HORSES * r + own);
        }

        int worthByTruth(int r, int x, int y, int z) {
            int first = TRAITS * r;
            return x * at(truth, first) + y * at(truth, first + 1) + z * at(truth, first + 2);
        }
    }

    /** What each rider is worth to each horse, as its traits show. */
    private static final class Worths {
        private final Fair ground;
        private final int[] worth = new int[MOST_PAIRS];

        Worths(Fair ground) {
            this.ground = ground;
        }

        void weigh(State state) {
            for (int r = 0; r < ground.riders; r++) {
                int first = TRAITS * r;
                weighRider(r, at(ground.truth, first) + at(state.dressed, first),
                        at(ground.truth, first + 1) + at(state.dressed, first + 1),
                        at(ground.truth, first + 2) + at(state.dressed, first + 2));
            }
        }

        void weighRider(int r, int a, int b, int c) {
            for (int h = 0; h < ground.horses; h++) {
                int first = TRAITS * h;
                put(worth, MOST_RIDERS * h + r, a * at(ground.weighs, first)
                        + b * at(ground.weighs, first + 1) + c * at(ground.weighs, first + 2));
            }
        }

        int of(int h, int r) {
            return at(worth, MOST_RIDERS * h + r);
        }

        boolean enough(int h, int r) {
            return of(h, r) >= at(ground.least, h);
        }

        boolean horseLikes(int h, int r, int other) {
            int first = MOST_RIDERS * h;
            int more = at(worth, first + r) - at(worth, first + other);
            return more > 0 || (more == 0 && r < other);
        }

        int points(int h, int r) {
            return at(ground.speed, h) + of(h, r) / 10;
        }
    }

    /** Which horse each rider has. */
    private static final class Way {
        private final int[] horse = new int[MOST_RIDERS];

        Way() {
            Arrays.fill(horse, NONE);
        }

        void clear() {
            Arrays.fill(horse, NONE);
        }

        void copyFrom(Way other) {
            System.arraycopy(other.horse, 0, horse, 0, MOST_RIDERS);
        }

        void set(int r, int h) {
            put(horse, r, h);
        }

        int horseOf(int r) {
            return r >= 0 && r < horse.length ? horse[r] : NONE;
        }

        int takenBits() {
            int bits = 0;
            for (int r = 0; r < horse.length; r++) {
                if (horse[r] != NONE) {
                    bits |= 1 << r;
                }
            }
            return bits;
        }

        int keptBits(int h) {
            int bits = 0;
            for (int r = 0; r < horse.length; r++) {
                if (horse[r] == h) {
                    bits |= 1 << r;
                }
            }
            return bits;
        }

        int keptCount(int h) {
            return Integer.bitCount(keptBits(h));
        }

        private int leastLiked(int h, Worths worths) {
            int worst = NONE;
            for (int r = 0; r < horse.length; r++) {
                if (horse[r] == h && (worst == NONE || worths.horseLikes(h, worst, r))) {
                    worst = r;
                }
            }
            return worst;
        }

        boolean leadTo(int r, int h, Worths worths) {
            if (!worths.enough(h, r)) {
                return false;
            }
            if (keptCount(h) >= at(worths.ground.keeps, h)) {
                int worst = leastLiked(h, worths);
                if (worst == NONE || !worths.horseLikes(h, r, worst)) {
                    return false;
                }
                set(worst, NONE);
            }
            set(r, h);
            return true;
        }

        boolean boltsWith(int r, int h, Worths worths) {
            if (!worths.enough(h, r) || !worths.ground.riderLikes(r, h, horseOf(r))) {
                return false;
            }
            if (keptCount(h) < at(worths.ground.keeps, h)) {
                return true;
            }
            int worst = leastLiked(h, worths);
            return worst != NONE && worths.horseLikes(h, r, worst);
        }
    }

    /** All that acts change. */
    private static final class State {
        private final Way way = new Way();
        private final int[] dressed = new int[MOST_RIDERS * TRAITS];
        private int oatsSpent;
        private boolean filled;

        void clear() {
            way.clear();
            Arrays.fill(dressed, 0);
            oatsSpent = 0;
        }

        void copyFrom(State other) {
            way.copyFrom(other.way);
            System.arraycopy(other.dressed, 0, dressed, 0, dressed.length);
            oatsSpent = other.oatsSpent;
        }
    }

    /** The states before the last acts, in a ring. */
    private static final class Acts {
        private static final int MOST = 14;

        private final State[] before = new State[MOST];
        private int first;
        private int count;

        Acts() {
            for (int i = 0; i < before.length; i++) {
                before[i] = new State();
            }
        }

        void remember(State state) {
            if (count == MOST) {
                first = (first + 1) % MOST;
                count--;
            }
            State next = stateAt(count);
            if (next != null) {
                next.copyFrom(state);
                count++;
            }
        }

        boolean bringBack(State state) {
            State last = count > 0 ? stateAt(count - 1) : null;
            if (last == null) {
                return false;
            }
            state.copyFrom(last);
            count--;
            return true;
        }

        private State stateAt(int i) {
            int place = (first + i) % MOST;
            return place >= 0 && place < before.length ? before[place] : null;
        }
    }

    /** The fair run to its end, from nobody taken on. */
    private static final class Market {
        private final Fair ground;
        private final Worths worths;
        private final Way way = new Way();
        private final int[] leads = new int[MOST_RIDERS];
        private final int[] asked = new int[MOST_HORSES];

        Market(Fair ground, Worths worths) {
            this.ground = ground;
            this.worths = worths;
        }

        void holdByRiders(int coming) {
            way.clear();
            Arrays.fill(leads, 0);
            for (int step = 0; step < MOST_PAIRS; step++) {
                int r = leastToLead(coming);
                if (r == NONE) {
                    return;
                }
                int h = ground.likedAs(r, at(leads, r));
                put(leads, r, at(leads, r) + 1);
                way.leadTo(r, h, worths);
            }
        }

        private int leastToLead(int coming) {
            for (int r = 0; r < ground.riders; r++) {
                if (contains(coming, r) && way.horseOf(r) == NONE && at(leads, r) < ground.horses) {
                    return r;
                }
            }
            return NONE;
        }

        void holdByHorses() {
            way.clear();
            Arrays.fill(asked, 0);
            for (int step = 0; step < MOST_PAIRS; step++) {
                int h = leastToAsk();
                if (h == NONE) {
                    return;
                }
                int r = bestToAsk(h);
                put(asked, h, at(asked, h) | 1 << r);
                if (ground.riderLikes(r, h, way.horseOf(r))) {
                    way.set(r, h);
                }
            }
        }

        private int leastToAsk() {
            for (int h = 0; h < ground.horses; h++) {
                if (way.keptCount(h) < at(ground.keeps, h) && bestToAsk(h) != NONE) {
                    return h;
                }
            }
            return NONE;
        }

        private int bestToAsk(int h) {
            int best = NONE;
            for (int r = 0; r < ground.riders; r++) {
                boolean open = !contains(at(asked, h), r) && worths.enough(h, r);
                if (open && (best == NONE || worths.horseLikes(h, r, best))) {
                    best = r;
                }
            }
            return best;
        }
    }

    /** All ways in which riders have horses, none more than it keeps. */
    private static final class Ways {
        private final Fair ground;
        private final Worths worths;
        private final Way way = new Way();
        private final Way first = new Way();
        private int holding;
        private int unsure;
        private int mostPoints;

        Ways(Fair ground, Worths worths) {
            this.ground = ground;
            this.worths = worths;
        }

        void findHolding() {
            holding = 0;
            unsure = 0;
            first.clear();
            int all = numberOfWays();
            for (int number = 0; number < all; number++) {
                setWay(number);
                if (isWay() && allEnough() && nobodyBolts()) {
                    addHolding();
                }
            }
        }

        private void addHolding() {
            if (holding == 0) {
                first.copyFrom(way);
            }
            holding++;
            for (int r = 0; r < ground.riders; r++) {
                if (way.horseOf(r) != first.horseOf(r)) {
                    unsure |= 1 << r;
                }
            }
        }

        void findRace() {
            mostPoints = NONE;
            first.clear();
            int all = numberOfWays();
            for (int number = 0; number < all; number++) {
                setWay(number);
                int points = isWay() ? pointsOfWay() : NONE;
                if (points > mostPoints) {
                    mostPoints = points;
                    first.copyFrom(way);
                }
            }
        }

        private int numberOfWays() {
            int number = 1;
            for (int r = 0; r < ground.riders; r++) {
                number *= ground.horses + 1;
            }
            return number;
        }

        /** Greater numbers are later ways: rider 0 leads, none is the last horse. */
        private void setWay(int number) {
            int choicesOfOne = Math.max(1, ground.horses + 1);
            int rest = number;
            for (int r = ground.riders - 1; r >= 0; r--) {
                int h = rest % choicesOfOne;
                rest /= choicesOfOne;
                way.set(r, h < ground.horses ? h : NONE);
            }
        }

        private boolean isWay() {
            for (int h = 0; h < ground.horses; h++) {
                if (way.keptCount(h) > at(ground.keeps, h)) {
                    return false;
                }
            }
            return true;
        }

        private boolean allEnough() {
            for (int r = 0; r < ground.riders; r++) {
                int own = way.horseOf(r);
                if (own != NONE && !worths.enough(own, r)) {
                    return false;
                }
            }
            return true;
        }

        private boolean nobodyBolts() {
            for (int r = 0; r < ground.riders; r++) {
                for (int h = 0; h < ground.horses; h++) {
                    if (way.boltsWith(r, h, worths)) {
                        return false;
                    }
                }
            }
            return true;
        }

        private int pointsOfWay() {
            int points = 0;
            for (int r = 0; r < ground.riders; r++) {
                int own = way.horseOf(r);
                if (own != NONE) {
                    points += worths.points(own, r);
                }
            }
            return points;
        }
    }

    /** What a sought horse chose, and the ways to weigh that agree, as bits. */
    private static final class Choices {
        private static final int MOST = 6;
        private static final int WAYS_TO_WEIGH = 64;

        private final int[] better = new int[MOST];
        private final int[] worse = new int[MOST];
        private int count;

        boolean add(int i, int j) {
            if (count >= MOST) {
                return false;
            }
            put(better, count, i);
            put(worse, count, j);
            count++;
            return true;
        }

        long learntBits(Fair ground) {
            long bits = -1L;
            for (int c = 0; c < count; c++) {
                int i = at(better, c);
                int j = at(worse, c);
                if (ground.hasRider(i) && ground.hasRider(j)) {
                    bits &= likingBits(ground, i, j);
                }
            }
            return bits;
        }

        long likingBits(Fair ground, int i, int j) {
            long bits = 0;
            for (int w = 0; w < WAYS_TO_WEIGH; w++) {
                int more = ground.worthByTruth(i, w / 16, w / 4 % 4, w % 4)
                        - ground.worthByTruth(j, w / 16, w / 4 % 4, w % 4);
                if (more > 0 || (more == 0 && i < j)) {
                    bits |= 1L << w;
                }
            }
            return bits;
        }

        static int leastFigures(long bits) {
            for (int w = 0; w < WAYS_TO_WEIGH; w++) {
                if ((bits >>> w & 1L) == 1L) {
                    return 100 * (w / 16) + 10 * (w / 4 % 4) + w % 4;
                }
            }
            return NONE;
        }
    }

    /** Two riders that bid for one horse. */
    private static final class Bids {
        private int worthOfOne;
        private int worthOfOther;
        private boolean oneIsLesser;
        private int rests;
        private int firstRest;

        void findRests(int worthOne, int worthOther, boolean lesser) {
            worthOfOne = worthOne;
            worthOfOther = worthOther;
            oneIsLesser = lesser;
            rests = 0;
            firstRest = NONE;
            for (int one = 0; one <= MOST_BID; one++) {
                for (int other = 0; other <= MOST_BID; other++) {
                    if (isRest(one, other)) {
                        firstRest = rests == 0 ? 10 * one + other : firstRest;
                        rests++;
                    }
                }
            }
        }

        private boolean isRest(int one, int other) {
            for (int bid = 0; bid <= MOST_BID; bid++) {
                if (gainOfOne(bid, other) > gainOfOne(one, other)
                        || gainOfOther(one, bid) > gainOfOther(one, other)) {
                    return false;
                }
            }
            return true;
        }

        private boolean oneWins(int one, int other) {
            int more = worthOfOne + OAT_WORTH * one - worthOfOther - OAT_WORTH * other;
            return more > 0 || (more == 0 && oneIsLesser);
        }

        private int gainOfOne(int one, int other) {
            return (oneWins(one, other) ? PRIZE : 0) - one;
        }

        private int gainOfOther(int one, int other) {
            return (oneWins(one, other) ? 0 : PRIZE) - other;
        }
    }
}
