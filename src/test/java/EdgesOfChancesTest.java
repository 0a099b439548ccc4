import java.math.BigInteger;

/** The edges that the document names for chances, the seed, days and slots: promises 29 to 33. */
public final class EdgesOfChancesTest {
    private static final Due DUE = new Due();

    public static void main(String[] args) {
        nobodyOrAllCome();
        everyTenth();
        leastTerms();
        chancesOfNoOne();
        chancesOfWhoComes();
        chancesAddUp();
        seedsOfAnySize();
        oneDayAndForty();
        wrappingDays();
        upperBitsOnly();
        daysGoOn();
        daysWithoutPairs();
        daysOfTheGreatestFair();
        keptOfNobody();
        keptOfAll();
        twoSlots();
        slotsOfAnotherFair();
        goneOnFrom();
        manyCalls();
        DUE.end();
    }

    private static void chance(HorsesChoose x, int rider, int horse, int tenths, int above, int below) {
        String call = "chance(" + rider + ", " + horse + ", " + tenths;
        DUE.due(call + ", true)", x.chance(rider, horse, tenths, true), above);
        DUE.due(call + ", false)", x.chance(rider, horse, tenths, false), below);
    }

    /** "Each RIDER comes by x tenths (0 .. 10)": nobody, or all. */
    private static void nobodyOrAllCome() {
        HorsesChoose x = Due.fairOf("FH10000000H10000000R0000R0000R0000");
        for (int r = 0; r < 3; r++) {
            for (int h = 0; h < 2; h++) {
                chance(x, r, h, 0, 0, 1);
                chance(x, r, h, 10, r == h ? 1 : 0, 1);
            }
        }
        DUE.due("chance(0, 0, 11, true)", x.chance(0, 0, 11, true), -2);
        DUE.due("chance(0, 0, -1, true)", x.chance(0, 0, -1, true), -2);
    }

    private static void everyTenth() {
        HorsesChoose x = Due.fairOf("FH10000000R0000");
        int[] above = {0, 1, 1, 3, 2, 1, 3, 7, 4, 9, 1};
        int[] below = {1, 10, 5, 10, 5, 2, 5, 10, 5, 10, 1};
        for (int tenths = 0; tenths <= 10; tenths++) {
            chance(x, 0, 0, tenths, above[tenths], below[tenths]);
        }
    }

    /** "In least terms": of 10 to the number of riders, however many come for nothing. */
    private static void leastTerms() {
        HorsesChoose x = Due.fairOf("FH10000000R0000R0000R0000R0000R0000");
        chance(x, 0, 0, 5, 1, 2);
        chance(x, 1, 0, 5, 1, 4);
        chance(x, 2, 0, 5, 1, 8);
        chance(x, 3, 0, 5, 1, 16);
        chance(x, 4, 0, 5, 1, 32);
        chance(x, 4, 0, 2, 256, 3125);
        chance(x, 4, 0, 1, 6561, 100000);
        chance(x, 4, 0, 9, 9, 100000);
        chance(x, 3, 0, 9, 9, 10000);
        chance(x, 0, 0, 9, 9, 10);
    }

    /** Who never has that horse has it by 0 of 1. */
    private static void chancesOfNoOne() {
        HorsesChoose x = Due.fairOf("FH11000005H11009000R4000R9000");
        for (int tenths = 0; tenths <= 10; tenths++) {
            chance(x, 0, 0, tenths, 0, 1);
        }
        chance(x, 0, 1, 10, 0, 1);
        chance(x, 0, 1, 5, 1, 4);
        chance(x, 1, 1, 5, 1, 2);
        chance(x, 1, 0, 5, 0, 1);
    }

    /** "HELD by those RIDERS that come", from nobody TAKEN, as they show. */
    private static void chancesOfWhoComes() {
        HorsesChoose x = Due.fairOf("FH11009000H11008000R1000R2000R3000");
        chance(x, 2, 0, 3, 3, 10);
        chance(x, 1, 0, 3, 21, 100);
        chance(x, 1, 1, 3, 9, 100);
        chance(x, 0, 0, 3, 147, 1000);
        chance(x, 0, 1, 3, 63, 500);
        x.lead(2, 1);
        x.lead(1, 0);
        chance(x, 2, 0, 3, 3, 10);
        chance(x, 0, 1, 3, 63, 500);
        x.dress(0, 0);
        x.dress(0, 0);
        chance(x, 0, 0, 3, 3, 10);
        chance(x, 2, 0, 3, 21, 100);
        x.bell();
        chance(x, 2, 0, 3, 3, 10);
        DUE.due("about(2) stays", x.about(2), 6);
    }

    /** A horse that all take is free by 1/2 to the number of riders. */
    private static void chancesAddUp() {
        HorsesChoose x = Due.fairOf("FH10000000R3330R0000R9990R1110");
        int of16 = 0;
        for (int r = 0; r < 4; r++) {
            of16 += 16 / x.chance(r, 0, 5, false) * x.chance(r, 0, 5, true);
        }
        DUE.due("chances of all together, of 16", of16, 15);
    }

    /** "THE SEED, a long; 0 at first." */
    private static void seedsOfAnySize() {
        HorsesChoose x = new HorsesChoose();
        long[] seeds = {1, -1, Long.MAX_VALUE, Long.MIN_VALUE, Integer.MAX_VALUE, 1L << 32, 0};
        long was = 0;
        for (long v : seeds) {
            DUE.due("seed(" + v + ")", x.seed(v), was);
            was = v;
        }
        DUE.due("seed(9) in the end", x.seed(9), 0);
    }

    private static BigInteger after(BigInteger seed) {
        return seed.multiply(new BigInteger("6364136223846793005")).add(new BigInteger("1442695040888963407"))
                .mod(BigInteger.ONE.shiftLeft(64));
    }

    private static long seedAfter(long seed, int days) {
        BigInteger now = BigInteger.valueOf(seed).mod(BigInteger.ONE.shiftLeft(64));
        for (int i = 0; i < days; i++) {
            now = after(now);
        }
        return now.longValue();
    }

    /** "m times (1 .. 40)." */
    private static void oneDayAndForty() {
        HorsesChoose x = Due.fairOf("FH10000000R0000");
        int[] bad = {0, -1, 41, Integer.MAX_VALUE, Integer.MIN_VALUE};
        for (int m : bad) {
            DUE.due("days(" + m + ")", x.days(m), -2);
        }
        DUE.due("seed(0) after refusals", x.seed(0), 0);
        for (int m = 1; m <= 40; m++) {
            x.seed(m);
            DUE.due("days(" + m + ")", x.days(m), 1);
            DUE.due("seed() after " + m + " days", x.seed(0), seedAfter(m, m));
        }
        DUE.due("days(1) from 0", x.days(1), 1);
        DUE.due("seed() after one day from 0", x.seed(0), 1442695040888963407L);
    }

    /** "64 bits, wrapping." */
    private static void wrappingDays() {
        HorsesChoose x = Due.fairOf("FH10000000R0000");
        long[] seeds = {-1, Long.MAX_VALUE, Long.MIN_VALUE, 1L << 62, -1442695040888963407L, 6364136223846793005L};
        for (long v : seeds) {
            x.seed(v);
            x.days(1);
            long left = x.seed(v);
            DUE.due("seed() after a day from " + v, left, seedAfter(v, 1));
            x.days(40);
            DUE.due("seed() after 40 days from " + v, x.seed(0), seedAfter(v, 40));
        }
    }

    /** "Of its upper 31 bits what is left by RIDERS times HORSES": never below 0, nothing of the lower bits. */
    private static void upperBitsOnly() {
        HorsesChoose x = Due.fairOf("FH10000000H10000000H10000000R0000R0000R0000R0000R0000");
        for (long v = -300; v < 300; v += 7) {
            long upper = seedAfter(v, 1) >>> 33;
            x.seed(v);
            DUE.due("days(1) from " + v, x.days(1), 1 << upper % 15 / 3);
        }
    }

    /** "It is LED there, if it is not TAKEN": from who is TAKEN now on, and nothing but THE SEED changes. */
    private static void daysGoOn() {
        // One horse that likes greater riders better: who is taken is who is taken now, or a greater one.
        HorsesChoose x = Due.fairOf("FH11000002R1000R2000R3000R4000R5000");
        DUE.due("days(40) from nobody", x.days(40), 16);
        x.lead(4, 0);
        for (int m = 1; m <= 40; m++) {
            DUE.due("days(" + m + ") from the best one", x.days(m), 16);
        }
        x.undo();
        x.lead(1, 0);
        x.seed(0);
        int taken = x.days(1);
        x.seed(0);
        DUE.due("days(1) once more", x.days(1), taken);
        DUE.due("about(2) stays", x.about(2), 2);
        DUE.due("about(4) stays", x.about(4), 1);
        // Who is not worth enough is refused, forty times.
        Due.tell(x, "FH10000001R0000R0000");
        DUE.due("days(40) of refused ones", x.days(40), 0);
        x.dress(0, 0);
        DUE.due("days(40) by what weighs nothing", x.days(40), 0);
    }

    /** "0, and nothing is drawn, if there are no RIDERS or no HORSES." */
    private static void daysWithoutPairs() {
        for (String text : new String[] {"F", "FR0000", "FH10000000", "FR0000R0000", "FH10000000H10000000"}) {
            HorsesChoose x = Due.fairOf(text);
            x.seed(-5);
            DUE.due("days(1) of '" + text + "'", x.days(1), 0);
            DUE.due("days(40) of '" + text + "'", x.days(40), 0);
            DUE.due("days(0) of '" + text + "'", x.days(0), -2);
            DUE.due("days(41) of '" + text + "'", x.days(41), -2);
            DUE.due("seed() of '" + text + "'", x.seed(0), -5);
        }
    }

    private static void daysOfTheGreatestFair() {
        HorsesChoose x = Due.fairOf("F" + "H30000000".repeat(4) + "R0000".repeat(5));
        for (long v = 0; v < 40; v++) {
            x.seed(v);
            DUE.due("days(1) of 20 pairs from " + v, x.days(1), 1 << (seedAfter(v, 1) >>> 33) % 20 / 4);
        }
        // No horse is ever full of three riders: who was drawn once is taken.
        x = Due.fairOf("F" + "H30000000".repeat(4) + "R0000".repeat(3));
        BigInteger seed = BigInteger.ZERO;
        int taken = 0;
        for (int m = 1; m <= 40; m++) {
            seed = after(seed);
            taken |= 1 << seed.shiftRight(33).mod(BigInteger.valueOf(12)).intValue() / 4;
            x.seed(0);
            DUE.due("days(" + m + ") of 12 pairs", x.days(m), taken);
        }
        DUE.due("all came in 40 days", taken, 7);
    }

    /** "LATE: none were kept"; that nobody was TAKEN then is kept as well. */
    private static void keptOfNobody() {
        HorsesChoose x = new HorsesChoose();
        DUE.due("again(0) of a new object", x.again(0), -3);
        DUE.due("keep(0) of a new object", x.keep(0), 0);
        DUE.due("again(0) of nobody", x.again(0), 0);
        DUE.due("again(1) stays empty", x.again(1), -3);
        x = Due.fairOf("FH10000000R0000");
        x.keep(1);
        x.lead(0, 0);
        x.dress(0, 0);
        DUE.due("again(1) of nobody", x.again(1), 0);
        DUE.due("rider(0, 3)", x.rider(0, 3), -9);
        DUE.due("rider(0, 1)", x.rider(0, 1), 0);
        DUE.due("about(3)", x.about(3), 0);
        DUE.due("about(4)", x.about(4), 0);
    }

    private static void keptOfAll() {
        HorsesChoose x = Due.fairOf("FH30000000H30000000" + "R0000".repeat(5));
        for (int r = 0; r < 5; r++) {
            DUE.due("keep(0) of " + r, x.keep(0), r);
            x.lead(r, r / 3);
            x.dress(r, r % 3);
        }
        DUE.due("keep(0) of all", x.keep(0), 5);
        x.bell();
        x.giveBack(0);
        DUE.due("again(0) of all", x.again(0), 5);
        DUE.due("horse(0, 5)", x.horse(0, 5), 7);
        DUE.due("horse(1, 5)", x.horse(1, 5), 24);
        DUE.due("about(3)", x.about(3), 5);
        int[] shows = {100, 10, 1, 100, 10};
        for (int r = 0; r < 5; r++) {
            DUE.due("rider(" + r + ", 1)", x.rider(r, 1), shows[r]);
        }
    }

    /** "SLOTS 0 .. 1", each by itself. */
    private static void twoSlots() {
        HorsesChoose x = Due.fairOf("FH10000000H10000000R0000R0000");
        x.lead(0, 0);
        x.keep(0);
        x.lead(1, 1);
        x.keep(1);
        DUE.due("again(0)", x.again(0), 1);
        DUE.due("again(1)", x.again(1), 2);
        DUE.due("again(0) once more", x.again(0), 1);
        x.giveBack(0);
        DUE.due("keep(0) over it", x.keep(0), 0);
        DUE.due("again(1) stays", x.again(1), 2);
        DUE.due("again(0) of the later one", x.again(0), 0);
        for (int slot : new int[] {-1, 2, 3, Integer.MAX_VALUE, Integer.MIN_VALUE}) {
            DUE.due("keep(" + slot + ")", x.keep(slot), -1);
            DUE.due("again(" + slot + ")", x.again(slot), -1);
        }
    }

    /** "What was kept is gone", when the fair is made anew, not when that is refused. */
    private static void slotsOfAnotherFair() {
        HorsesChoose x = Due.fairOf("FH10000000R0000");
        x.lead(0, 0);
        x.keep(0);
        x.keep(1);
        x.write('H');
        DUE.due("fair() with a fault", x.fair(), -3);
        DUE.due("again(0) after LATE", x.again(0), 1);
        x.wipe();
        Due.write(x, "FH10000000R0000");
        DUE.due("fair() of the same text", x.fair(), 11);
        DUE.due("again(0) is gone", x.again(0), -3);
        DUE.due("again(1) is gone", x.again(1), -3);
        DUE.due("keep(0)", x.keep(0), 0);
        DUE.due("again(1) is gone yet", x.again(1), -3);
    }

    /** "No ACTS when one goes on": new ones are counted from there, and undone to there. */
    private static void goneOnFrom() {
        HorsesChoose x = Due.fairOf("FR0000R0000");
        for (int i = 0; i < 14; i++) {
            x.dress(i / 9, 0);
        }
        x.keep(1);
        DUE.due("about(4) stays when kept", x.about(4), 14);
        x.again(1);
        DUE.due("about(4) when gone on", x.about(4), 0);
        DUE.due("undo()", x.undo(), -3);
        for (int i = 0; i < 4; i++) {
            x.dress(1, 1);
        }
        DUE.due("about(3)", x.about(3), 18);
        for (int left = 3; left >= 0; left--) {
            DUE.due("undo() after going on", x.undo(), left);
        }
        DUE.due("undo() no further", x.undo(), -3);
        DUE.due("about(3) as kept", x.about(3), 14);
        DUE.due("rider(1, 1) as kept", x.rider(1, 1), 500);
        x.dress(1, 2);
        DUE.due("again(1) twice", x.again(1), 0);
        DUE.due("rider(1, 1) as kept twice", x.rider(1, 1), 500);
    }

    /** "An object is used for at most 512 calls": the last ones answer as the first ones. */
    private static void manyCalls() {
        HorsesChoose x = Due.fairOf("FH10000000R0000");
        for (int call = 18; call <= 508; call += 5) {
            DUE.due("lead(0, 0) as call " + call, x.lead(0, 0), 1);
            DUE.due("keep(0)", x.keep(0), 1);
            DUE.due("giveBack(0)", x.giveBack(0), 0);
            DUE.due("bell()", x.bell(), 0);
            DUE.due("about(4)", x.about(4), Math.min(14, (call - 18) / 5 * 3 + 3));
        }
        DUE.due("again(0) as the last call", x.again(0), 1);
    }
}
