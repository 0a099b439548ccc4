/** The edges that the document names for what holds, forging and races: promises 15 to 22. */
public final class EdgesOfHoldsTest {
    private static final Due DUE = new Due();
    /** Two pairs of riders and horses that each can be crossed by itself. */
    private static final String TWICE_CROSSED =
            "FH11009500H10101500H11035020H10135920R5900R9503R1291R2192";
    /** All riders like horses in their order, all horses like the greater riders better. */
    private static final String LADDER = "FH11009900H11008800H11007700H11006600R1000R2000R3000R4000R5000";

    public static void main(String[] args) {
        boltingAtTheLeastWorth();
        boltingFromAndTo();
        boltingFromFullOnes();
        heldOfNothing();
        heldFromNobody();
        heldByTheLadder();
        heldByMany();
        refusedByAll();
        holdingTwiceCrossed();
        holdingOne();
        sureOfNone();
        holdingAsTheyShow();
        forgingNothing();
        forgingNoMore();
        forgingTooMuch();
        forgingOfLikeOnes();
        forgingTheWholeWay();
        leftAtTheEdges();
        tenthsAreCut();
        racingAtTheEdges();
        racingWays();
        DUE.end();
    }

    private static void heldOfAll(HorsesChoose x, boolean byHorses, int... want) {
        for (int r = 0; r < want.length; r++) {
            DUE.due("held(" + r + ", " + byHorses + ")", x.held(r, byHorses), want[r]);
        }
    }

    private static void sureOfAll(HorsesChoose x, int... want) {
        for (int r = 0; r < want.length; r++) {
            DUE.due("sure(" + r + ")", x.sure(r), want[r]);
        }
    }

    private static void raceOfAll(HorsesChoose x, int points, int... want) {
        DUE.due("race()", x.race(), points);
        for (int r = 0; r < want.length; r++) {
            DUE.due("raceOf(" + r + ")", x.raceOf(r), want[r]);
        }
    }

    /** "If the RIDER is worth enough to it." */
    private static void boltingAtTheLeastWorth() {
        HorsesChoose x = Due.fairOf("FH11000005R4000R5000R6000");
        int[] want = {0, 1, 1};
        for (int r = 0; r < 3; r++) {
            DUE.due("bolts(" + r + ", 0) from 5 on", x.bolts(r, 0), want[r]);
        }
        DUE.due("about(7)", x.about(7), 2);
        x.dress(0, 0);
        DUE.due("bolts(0, 0), 5 by an oat", x.bolts(0, 0), 1);
        DUE.due("about(7) by an oat", x.about(7), 3);
    }

    /** "Likes it better than its own (or has none)": not its own, not one liked as much that is greater. */
    private static void boltingFromAndTo() {
        HorsesChoose x = Due.fairOf("FH30005500H30005500H30005500R0000");
        for (int own = 0; own < 3; own++) {
            x.lead(0, own);
            for (int h = 0; h < 3; h++) {
                DUE.due("bolts(0, " + h + ") from " + own, x.bolts(0, h), h < own ? 1 : 0);
            }
            DUE.due("about(7) from " + own, x.about(7), own);
            x.giveBack(0);
        }
        DUE.due("about(7) from none", x.about(7), 3);
    }

    /** "It keeps fewer than it can or likes this RIDER better than one it keeps." */
    private static void boltingFromFullOnes() {
        HorsesChoose x = Due.fairOf("FH21000000R7000R3000R5000R3000R4000");
        x.lead(0, 0);
        DUE.due("bolts(3, 0), one place is free", x.bolts(3, 0), 1);
        x.lead(1, 0);
        int[] want = {0, 0, 1, 0, 1};
        for (int r = 0; r < 5; r++) {
            DUE.due("bolts(" + r + ", 0) when it keeps 7 and 3", x.bolts(r, 0), want[r]);
        }
        x.dress(3, 0);
        DUE.due("bolts(3, 0), more than one of them", x.bolts(3, 0), 1);
        DUE.due("bolts(1, 0), its own", x.bolts(1, 0), 0);
    }

    /** No riders, no horses, or neither. */
    private static void heldOfNothing() {
        HorsesChoose x = Due.fairOf("FR0000R9990");
        heldOfAll(x, false, -9, -9);
        heldOfAll(x, true, -9, -9);
        sureOfAll(x, 9, 9);
        raceOfAll(x, 0, 9, 9);
        DUE.due("holds() without horses", x.holds(), 1);
        DUE.due("left() without horses", x.left(), 0);
        Due.tell(x, "FH10000000H30000081");
        DUE.due("holds() without riders", x.holds(), 1);
        DUE.due("left() without riders", x.left(), 3);
        raceOfAll(x, 0);
        Due.tell(x, "F");
        DUE.due("holds() of none", x.holds(), 1);
        DUE.due("left() of none", x.left(), 0);
        raceOfAll(x, 0);
    }

    /** "From nobody TAKEN on": who is with whom now is not looked at. */
    private static void heldFromNobody() {
        HorsesChoose x = Due.fairOf(LADDER);
        int[] ways = {0, 1, 2, 3};
        for (int h : ways) {
            x.lead(h, 3 - h);
            heldOfAll(x, false, -9, 3, 2, 1, 0);
            heldOfAll(x, true, -9, 3, 2, 1, 0);
            DUE.due("left()", x.left(), 0);
            DUE.due("holds()", x.holds(), 1);
        }
        DUE.due("about(2) stays", x.about(2), 15);
        DUE.due("horse(3, 5) stays", x.horse(3, 5), 1);
    }

    /** Each rider that is led sends all before it on, one horse further. */
    private static void heldByTheLadder() {
        HorsesChoose x = Due.fairOf(LADDER);
        heldOfAll(x, false, -9, 3, 2, 1, 0);
        heldOfAll(x, true, -9, 3, 2, 1, 0);
        sureOfAll(x, 9, 3, 2, 1, 0);
        // With like riders the lesser one keeps its place.
        Due.tell(x, "FH10000000H10000000H10000000H10000000R0000R0000R0000R0000R0000");
        heldOfAll(x, false, 0, 1, 2, 3, -9);
        heldOfAll(x, true, 0, 1, 2, 3, -9);
        sureOfAll(x, 0, 1, 2, 3, 9);
        DUE.due("holds() of like ones", x.holds(), 1);
    }

    /** A horse that keeps three asks on until it keeps them. */
    private static void heldByMany() {
        HorsesChoose x = Due.fairOf("FH31000003R2000R3000R9000R4000R5000");
        heldOfAll(x, false, -9, -9, 0, 0, 0);
        heldOfAll(x, true, -9, -9, 0, 0, 0);
        DUE.due("left() of three", x.left(), 0);
        Due.tell(x, "FH31000003R2000R3000R1000R4000R0000");
        heldOfAll(x, false, -9, 0, -9, 0, -9);
        heldOfAll(x, true, -9, 0, -9, 0, -9);
        DUE.due("left() of two", x.left(), 1);
        DUE.due("holds() of two", x.holds(), 1);
        // Horse 0 asks both, horse 1 is liked better and asks one of them later: 0 asks on.
        Due.tell(x, "FH21001000H11009000R5000R4000R3000");
        heldOfAll(x, false, 1, 0, 0);
        heldOfAll(x, true, 1, 0, 0);
    }

    /** Nobody is worth enough: nobody is held, each horse is left. */
    private static void refusedByAll() {
        HorsesChoose x = Due.fairOf("FH11110001H21110081R0000R0000");
        heldOfAll(x, false, -9, -9);
        heldOfAll(x, true, -9, -9);
        sureOfAll(x, 9, 9);
        DUE.due("left()", x.left(), 3);
        DUE.due("holds()", x.holds(), 1);
        DUE.due("about(7)", x.about(7), 0);
        // A race does not ask for it.
        raceOfAll(x, 0, 0, 1);
    }

    private static void holdingTwiceCrossed() {
        HorsesChoose x = Due.fairOf(TWICE_CROSSED);
        heldOfAll(x, false, 0, 1, 2, 3);
        heldOfAll(x, true, 1, 0, 3, 2);
        DUE.due("holds() twice crossed", x.holds(), 4);
        sureOfAll(x, -9, -9, -9, -9);
        DUE.due("left() twice crossed", x.left(), 0);
    }

    /** "None" is a way, too, when the one there is is not worth enough; else it bolts. */
    private static void holdingOne() {
        HorsesChoose x = Due.fairOf("FH11000005R4000");
        DUE.due("holds() of 4 for 5", x.holds(), 1);
        sureOfAll(x, 9);
        x.dress(0, 0);
        DUE.due("holds() of 5 for 5", x.holds(), 1);
        sureOfAll(x, 0);
        // "No HORSE more than it keeps."
        Due.tell(x, "FH20000000R0000R0000R0000");
        DUE.due("holds() of three for two", x.holds(), 1);
        sureOfAll(x, 0, 0, 9);
    }

    /** "9: none in all", "UNSURE: it is not one in all". */
    private static void sureOfNone() {
        HorsesChoose x = Due.fairOf("FH11009000H10101000R1900R9103R0000R0110");
        DUE.due("holds() crossed", x.holds(), 2);
        sureOfAll(x, -9, -9, 9, 9);
        DUE.due("sure(4)", x.sure(4), -1);
        DUE.due("sure(-1)", x.sure(-1), -1);
        // Who was unsure is sure again, when it shows more.
        for (int i = 0; i < 8; i++) {
            x.dress(0, 0);
        }
        DUE.due("holds() when 0 shows 99", x.holds(), 1);
        sureOfAll(x, 0, 1, 9, 9);
    }

    private static void holdingAsTheyShow() {
        HorsesChoose x = Due.fairOf("FH11009000R4000R5000");
        sureOfAll(x, 9, 0);
        heldOfAll(x, true, -9, 0);
        x.dress(0, 0);
        sureOfAll(x, 0, 9);
        heldOfAll(x, true, 0, -9);
        heldOfAll(x, false, 0, -9);
        x.undo();
        sureOfAll(x, 9, 0);
        x.dress(0, 0);
        x.bell();
        sureOfAll(x, 9, 0);
    }

    private static void forged(HorsesChoose x, int rider, int horse, int oats, int figures) {
        DUE.due("forged(" + rider + ", " + horse + ", 0)", x.forged(rider, horse, 0), oats);
        DUE.due("forged(" + rider + ", " + horse + ", 1)", x.forged(rider, horse, 1), figures);
    }

    /** It has that horse as it is: 0 oats, 000. */
    private static void forgingNothing() {
        HorsesChoose x = Due.fairOf(LADDER);
        for (int r = 1; r < 5; r++) {
            forged(x, r, 4 - r, 0, 0);
        }
        // Rider 0 needs 1 more than who has the horse, or as much, being the lesser one.
        forged(x, 0, 3, 1, 100);
        forged(x, 0, 2, 2, 200);
        forged(x, 0, 1, 3, 300);
        forged(x, 0, 0, 4, 400);
        // Rider 1 would have to be worth less to go back to a horse it likes less.
        forged(x, 4, 1, -9, -9);
        forged(x, 1, 0, 3, 300);
        // Being TAKEN now counts for nothing.
        x.lead(0, 0);
        forged(x, 0, 0, 4, 400);
    }

    /** "No TRAIT SHOWS more than 9." */
    private static void forgingNoMore() {
        HorsesChoose x = Due.fairOf("FH11110027R9990");
        forged(x, 0, 0, 0, 0);
        Due.tell(x, "FH11000009R8990");
        forged(x, 0, 0, 1, 100);
        x.dress(0, 0);
        forged(x, 0, 0, 0, 0);
        Due.tell(x, "FH11000010R9000");
        forged(x, 0, 0, -9, -9);
        Due.tell(x, "FH11100018R5550");
        x.dress(0, 0);
        x.dress(0, 2);
        forged(x, 0, 0, 7, 340);
        DUE.due("rider(0, 1) stays", x.rider(0, 1), 656);
        DUE.due("about(3) stays", x.about(3), 2);
        DUE.due("about(4) stays", x.about(4), 2);
    }

    /** Who shows too much goes to a horse that it likes better. */
    private static void forgingTooMuch() {
        HorsesChoose x = Due.fairOf("FH11009003H11001002R0000R4000");
        // 1 has horse 0 by 4; 0 has horse 1 by 2 or 3 and horse 0 by 4.
        forged(x, 0, 1, 2, 200);
        forged(x, 0, 0, 4, 400);
        forged(x, 1, 1, -9, -9);
        // Horse 0 takes from 9 of trait 0 on; horse 1 asks for 10 by 3, 1, 0.
        Due.tell(x, "FH11009009H13101010R0000");
        forged(x, 0, 1, 4, 310);
        forged(x, 0, 0, 9, 900);
    }

    /** "Of like ones the least as a number." */
    private static void forgingOfLikeOnes() {
        HorsesChoose x = Due.fairOf("FH11110003R0000");
        forged(x, 0, 0, 3, 3);
        Due.tell(x, "FH11110012R0000");
        forged(x, 0, 0, 12, 39);
        Due.tell(x, "FH12220005R0000");
        forged(x, 0, 0, 3, 3);
        Due.tell(x, "FH12130007R0000");
        forged(x, 0, 0, 3, 3);
        Due.tell(x, "FH13210005R0000");
        forged(x, 0, 0, 2, 110);
        Due.tell(x, "FH13120006R0000");
        forged(x, 0, 0, 2, 200);
    }

    private static void forgingTheWholeWay() {
        HorsesChoose x = Due.fairOf("FH13330081R0000");
        forged(x, 0, 0, 27, 999);
        Due.tell(x, "FH13330079R0000");
        forged(x, 0, 0, 27, 999);
        Due.tell(x, "FH13330078R0000");
        forged(x, 0, 0, 26, 899);
        Due.tell(x, "FH13330000R0000");
        forged(x, 0, 0, 0, 0);
    }

    /** "HORSES (bits) that keep fewer than they can, when HELD by RIDERS." */
    private static void leftAtTheEdges() {
        for (int riders = 0; riders <= 5; riders++) {
            HorsesChoose x = Due.fairOf("FH10000000H20000000H10000000" + "R0000".repeat(riders));
            int[] want = {7, 6, 6, 4, 0, 0};
            DUE.due("left() of " + riders, x.left(), want[riders]);
        }
        HorsesChoose x = Due.fairOf("FH11000009H11000009H11000009H11000009R8000");
        DUE.due("left() of all", x.left(), 15);
        x.dress(0, 0);
        DUE.due("left() as it shows", x.left(), 14);
    }

    /** "Its SPEED and a tenth (cut) of what it is worth to it", of each by itself. */
    private static void tenthsAreCut() {
        String[] riders = {"R3330", "R9100", "R9910", "R9920", "R9990"};
        int[] want = {0, 1, 1, 2, 2};
        for (int i = 0; i < riders.length; i++) {
            DUE.due("race() of " + riders[i], Due.fairOf("FH11110000" + riders[i]).race(), want[i]);
        }
        DUE.due("race() of 81 and speed 9", Due.fairOf("FH13339081R9990").race(), 17);
        raceOfAll(Due.fairOf("FH21110000R5000R5000"), 0, 0, 0);
        raceOfAll(Due.fairOf("FH21110000R9600R9600"), 2, 0, 0);
        HorsesChoose x = Due.fairOf("FH11110000R9000");
        DUE.due("race() of 9", x.race(), 0);
        x.dress(0, 2);
        DUE.due("race() of 10 as it shows", x.race(), 1);
    }

    /** "Whether it is worth enough or not", "no HORSE more than it keeps", "none last". */
    private static void racingAtTheEdges() {
        raceOfAll(Due.fairOf("FH10005081R0000"), 5, 0);
        raceOfAll(Due.fairOf("FH10000081R0000"), 0, 0);
        raceOfAll(Due.fairOf("FH10005000R0000R0000"), 5, 0, 9);
        raceOfAll(Due.fairOf("FH20005000R0000R0000R0000"), 10, 0, 0, 9);
        raceOfAll(Due.fairOf("FH30005000R0000R0000R0000R0000R0000"), 15, 0, 0, 0, 9, 9);
        raceOfAll(Due.fairOf("FH11000000R9000R1000R9900"), 0, 0, 9, 9);
        raceOfAll(Due.fairOf("FH11110000R9000R1000R9900"), 1, 9, 9, 0);
        raceOfAll(Due.fairOf("FH33339081H33339081R9990R9990R9990R9990R9990"), 85, 0, 0, 0, 1, 1);
    }

    /** "Ways by RIDERS from 0, of each HORSES from 0": of ways with as many points the first one. */
    private static void racingWays() {
        raceOfAll(Due.fairOf("FH10001000H10001000R0000R0000"), 2, 0, 1);
        raceOfAll(Due.fairOf("FH10001000H10002000R0000R0000"), 3, 0, 1);
        raceOfAll(Due.fairOf("FH10001000H10002000H10002000R0000R0000"), 4, 1, 2);
        // Rider 0 goes without, if the points of others ask for it, not sooner.
        raceOfAll(Due.fairOf("FH11110000R9000R9900"), 1, 9, 0);
        raceOfAll(Due.fairOf("FH11110000R9900R9990"), 2, 9, 0);
        raceOfAll(Due.fairOf("FH11110000R9900R9920R9990"), 2, 9, 0, 9);
        // Horse 0 for both, then 0 and 1: of the same points the lesser horse for rider 0.
        raceOfAll(Due.fairOf("FH20001000H20001000R0000R0000R0000"), 3, 0, 0, 1);
    }
}
