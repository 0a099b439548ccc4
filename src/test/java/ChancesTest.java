/** Promises 29 to 33: chances by who comes, days by the seed, the slots. */
public final class ChancesTest {
    private static final Due DUE = new Due();

    public static void main(String[] args) {
        chances();
        chancesRefused();
        seeds();
        days();
        daysOfTheTaken();
        daysOfNothing();
        keeping();
        goingOn();
        slotsRefused();
        DUE.end();
    }

    private static void chance(HorsesChoose x, int[] told, int above, int below) {
        String call = "chance(" + told[0] + ", " + told[1] + ", " + told[2];
        DUE.due(call + ", true)", x.chance(told[0], told[1], told[2], true), above);
        DUE.due(call + ", false)", x.chance(told[0], told[1], told[2], false), below);
    }

    private static void chances() {
        // Rider 0 has horse 0 unless both 1 and 3 come.
        HorsesChoose x = Due.fairOf(FairTest.FAIR);
        chance(x, new int[] {0, 0, 5}, 3, 8);
        chance(x, new int[] {0, 0, 3}, 273, 1000);
        chance(x, new int[] {0, 0, 1}, 99, 1000);
        chance(x, new int[] {0, 0, 10}, 0, 1);
        chance(x, new int[] {0, 0, 0}, 0, 1);
        chance(x, new int[] {0, 1, 5}, 0, 1);
        chance(x, new int[] {1, 0, 10}, 1, 1);
        chance(x, new int[] {2, 1, 4}, 2, 5);
        chance(x, new int[] {3, 0, 7}, 7, 10);
        x.lead(1, 0);
        x.lead(3, 0);
        chance(x, new int[] {0, 0, 5}, 3, 8);
        x.dress(0, 0);
        x.dress(0, 0);
        chance(x, new int[] {0, 0, 10}, 1, 1);
        // Rider 4 has the horse unless one of four others comes.
        Due.tell(x, "FH11000000R1000R1000R1000R1000R0000");
        chance(x, new int[] {4, 0, 1}, 6561, 100000);
        chance(x, new int[] {4, 0, 5}, 1, 32);
        chance(x, new int[] {3, 0, 9}, 9, 10000);
    }

    private static void chancesRefused() {
        HorsesChoose x = Due.fairOf(FairTest.FAIR);
        DUE.due("chance(0, 0, 11, true)", x.chance(0, 0, 11, true), -2);
        DUE.due("chance(0, 0, -1, false)", x.chance(0, 0, -1, false), -2);
        DUE.due("chance(4, 0, 11, true)", x.chance(4, 0, 11, true), -1);
        DUE.due("chance(-1, 0, 5, true)", x.chance(-1, 0, 5, true), -1);
        DUE.due("chance(0, 2, 5, true)", x.chance(0, 2, 5, true), -1);
        DUE.due("chance(0, -1, 5, false)", x.chance(0, -1, 5, false), -1);
    }

    private static void seeds() {
        HorsesChoose x = new HorsesChoose();
        DUE.due("seed(long)", x.seed(Long.MIN_VALUE), 0);
        DUE.due("seed(-1)", x.seed(-1), Long.MIN_VALUE);
        DUE.due("seed(0)", x.seed(0), -1);
        DUE.due("seed(0) again", x.seed(0), 0);
    }

    private static void days() {
        // From 0 the pairs are 7, 0, 1, 4, 5, 3, 0, 7, 0, 3, 7, 2: rider 3 and horse 1, and so on.
        HorsesChoose x = Due.fairOf(FairTest.FAIR);
        int[] want = {8, 9, 9, 9, 5, 5, 5, 5, 5, 5, 5, 7};
        for (int m = 1; m <= 12; m++) {
            x.seed(0);
            DUE.due("days(" + m + ")", x.days(m), want[m - 1]);
        }
        DUE.due("seed(0) after 12 days", x.seed(0), 6736625987792804572L);
        DUE.due("days(1)", x.days(1), 8);
        DUE.due("days(1): nobody stays TAKEN", x.days(1), 1);
        DUE.due("seed(7) after 2 days", x.seed(7), 1876011003808476466L);
        DUE.due("days(0)", x.days(0), -2);
        DUE.due("days(41)", x.days(41), -2);
        DUE.due("days(-1)", x.days(-1), -2);
        DUE.due("seed(-1) after BAD", x.seed(-1), 7);
        DUE.due("about(2) after days", x.about(2), 0);
        DUE.due("about(4) after days", x.about(4), 0);
        x.days(40);
        // Of one horse and three riders: 2, 0, 1, 1, 2.
        Due.tell(x, "FH21000000R0000R0000R0000");
        int[] ofOne = {4, 5, 3, 3, 3};
        for (int m = 1; m <= 5; m++) {
            x.seed(0);
            DUE.due("days(" + m + ") of one horse", x.days(m), ofOne[m - 1]);
        }
        // Of -1 the first draw has its upper bit set: it is 31 bits without a sign.
        Due.tell(x, "FH11009000H10101000R1900R9103");
        x.seed(-1);
        DUE.due("days(1) from -1", x.days(1), 1);
        DUE.due("days(1) then", x.days(1), 2);
        DUE.due("seed(0) after two from -1", x.seed(0), -5644886720501858487L);
    }

    private static void daysOfTheTaken() {
        HorsesChoose x = Due.fairOf(FairTest.FAIR);
        x.lead(1, 0);
        x.lead(3, 0);
        DUE.due("days(2) when horse 0 is full", x.days(2), 10);
        x.seed(0);
        DUE.due("days(5) when horse 0 is full", x.days(5), 14);
        DUE.due("horse(1, 5) after it", x.horse(1, 5), 0);
        x.dress(0, 0);
        x.dress(0, 0);
        x.seed(0);
        DUE.due("days(2) when 0 shows more", x.days(2), 3);
    }

    private static void daysOfNothing() {
        HorsesChoose x = Due.fairOf("FR0000");
        x.seed(3);
        DUE.due("days(1) without horses", x.days(1), 0);
        DUE.due("days(41) without horses", x.days(41), -2);
        DUE.due("seed(4): nothing is drawn", x.seed(4), 3);
        Due.tell(x, "FH10000000");
        DUE.due("days(40) without riders", x.days(40), 0);
        DUE.due("seed(5): nothing is drawn", x.seed(5), 4);
        Due.tell(x, "FH10000000R0000");
        DUE.due("days(1) of one pair", x.days(1), 1);
    }

    private static void keeping() {
        HorsesChoose x = Due.fairOf(FairTest.FAIR);
        DUE.due("keep(0) of nobody", x.keep(0), 0);
        x.lead(1, 0);
        x.lead(2, 1);
        x.dress(3, 1);
        DUE.due("keep(1)", x.keep(1), 2);
        DUE.due("about(4): to keep is no act", x.about(4), 3);
        DUE.due("undo() after keep(1)", x.undo(), 2);
        x.lead(3, 0);
        DUE.due("again(0)", x.again(0), 0);
        DUE.due("about(2) as of slot 0", x.about(2), 0);
        DUE.due("again(1)", x.again(1), 2);
        DUE.due("about(2) as of slot 1", x.about(2), 6);
        DUE.due("rider(2, 3) as of slot 1", x.rider(2, 3), 1);
        DUE.due("rider(3, 1) as of slot 1", x.rider(3, 1), 733);
        DUE.due("about(3) as of slot 1", x.about(3), 1);
        x.giveBack(1);
        DUE.due("keep(1) over what was kept", x.keep(1), 1);
        x.undo();
        DUE.due("again(1) of the later one", x.again(1), 1);
    }

    private static void goingOn() {
        HorsesChoose x = Due.fairOf(FairTest.FAIR);
        x.lead(1, 0);
        x.keep(0);
        x.dress(0, 0);
        x.choose(0, 1);
        x.seed(8);
        DUE.due("again(0)", x.again(0), 1);
        DUE.due("about(4): no acts", x.about(4), 0);
        DUE.due("undo()", x.undo(), -3);
        DUE.due("about(3)", x.about(3), 0);
        DUE.due("about(5): choices stay", x.about(5), 1);
        DUE.due("seed(0): the seed stays", x.seed(0), 8);
        x.giveBack(1);
        DUE.due("again(0) once more", x.again(0), 1);
        DUE.due("rider(1, 3)", x.rider(1, 3), 0);
    }

    private static void slotsRefused() {
        HorsesChoose x = Due.fairOf(FairTest.FAIR);
        x.lead(1, 0);
        DUE.due("keep(2)", x.keep(2), -1);
        DUE.due("keep(-1)", x.keep(-1), -1);
        DUE.due("again(2)", x.again(2), -1);
        DUE.due("again(-1)", x.again(-1), -1);
        DUE.due("again(0)", x.again(0), -3);
        x.keep(0);
        DUE.due("again(1)", x.again(1), -3);
        DUE.due("about(4) after refusals", x.about(4), 1);
        DUE.due("about(2) after refusals", x.about(2), 2);
    }
}
