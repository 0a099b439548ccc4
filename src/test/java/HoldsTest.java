/** Promises 15 to 22: who bolts, the fair run to its end, what holds, forged, left, races. */
public final class HoldsTest {
    private static final Due DUE = new Due();
    /** Each rider likes the other horse than the one that likes it best. */
    private static final String CROSSED = "FH11009000H10101000R1900R9103";

    public static void main(String[] args) {
        bolting();
        boltingFromFull();
        held();
        heldBothWays();
        holding();
        holdingWithNone();
        forging();
        forgingTies();
        leaving();
        racing();
        racingTies();
        nothingChanges();
        DUE.end();
    }

    private static void bolting() {
        HorsesChoose x = Due.fairOf(FairTest.FAIR);
        DUE.due("bolts(0, 0)", x.bolts(0, 0), 1);
        DUE.due("bolts(0, 1), worth too little", x.bolts(0, 1), 0);
        DUE.due("bolts(2, 0), worth too little", x.bolts(2, 0), 0);
        DUE.due("bolts(3, 1)", x.bolts(3, 1), 1);
        x.lead(3, 1);
        DUE.due("bolts(3, 0), liked better than its own", x.bolts(3, 0), 1);
        DUE.due("bolts(3, 1), its own", x.bolts(3, 1), 0);
        DUE.due("bolts(2, 1), who is worth more", x.bolts(2, 1), 1);
        x.lead(2, 1);
        x.lead(3, 0);
        DUE.due("bolts(3, 1), liked less than its own", x.bolts(3, 1), 0);
        DUE.due("bolts(4, 0)", x.bolts(4, 0), -1);
        DUE.due("bolts(-1, 0)", x.bolts(-1, 0), -1);
        DUE.due("bolts(0, 2)", x.bolts(0, 2), -1);
        DUE.due("bolts(0, -1)", x.bolts(0, -1), -1);
        x.dress(0, 2);
        DUE.due("bolts(0, 1), dressed, but worth less than 2", x.bolts(0, 1), 0);
        x.giveBack(2);
        DUE.due("bolts(0, 1), dressed", x.bolts(0, 1), 1);
    }

    private static void boltingFromFull() {
        HorsesChoose x = Due.fairOf("FH20000000R0000R0000R0000R0000");
        x.lead(1, 0);
        DUE.due("bolts(3, 0), a place is free", x.bolts(3, 0), 1);
        x.lead(2, 0);
        DUE.due("bolts(0, 0), the lesser of like ones", x.bolts(0, 0), 1);
        DUE.due("bolts(3, 0), the greater of like ones", x.bolts(3, 0), 0);
        DUE.due("about(7)", x.about(7), 1);
    }

    private static void held() {
        HorsesChoose x = Due.fairOf(FairTest.FAIR);
        int[] want = {-9, 0, 1, 0};
        for (int r = 0; r < 4; r++) {
            DUE.due("held(" + r + ", false)", x.held(r, false), want[r]);
            DUE.due("held(" + r + ", true)", x.held(r, true), want[r]);
        }
        DUE.due("held(4, false)", x.held(4, false), -1);
        DUE.due("held(-1, true)", x.held(-1, true), -1);
        x.dress(0, 0);
        x.dress(0, 0);
        DUE.due("held(0, false) dressed", x.held(0, false), 0);
        DUE.due("held(3, false) when 0 is dressed", x.held(3, false), -9);
        DUE.due("held(3, true) when 0 is dressed", x.held(3, true), -9);
    }

    private static void heldBothWays() {
        HorsesChoose x = Due.fairOf(CROSSED);
        DUE.due("held(0, false)", x.held(0, false), 0);
        DUE.due("held(1, false)", x.held(1, false), 1);
        DUE.due("held(0, true)", x.held(0, true), 1);
        DUE.due("held(1, true)", x.held(1, true), 0);
        Due.tell(x, "FR0000");
        DUE.due("held(0, false) without horses", x.held(0, false), -9);
        DUE.due("held(0, true) without horses", x.held(0, true), -9);
    }

    private static void holding() {
        HorsesChoose x = Due.fairOf(CROSSED);
        DUE.due("holds() crossed", x.holds(), 2);
        DUE.due("sure(0) crossed", x.sure(0), -9);
        DUE.due("sure(1) crossed", x.sure(1), -9);
        // Rider 2 has horse 2 in all that hold, rider 3 has none in all.
        Due.tell(x, "FH11009000H10101000H10035505R1900R9103R0020R0010");
        DUE.due("holds() of four", x.holds(), 2);
        DUE.due("sure(0) of four", x.sure(0), -9);
        DUE.due("sure(2) of four", x.sure(2), 2);
        DUE.due("sure(3) of four", x.sure(3), 9);
        DUE.due("sure(4)", x.sure(4), -1);
        DUE.due("sure(-1)", x.sure(-1), -1);
    }

    private static void holdingWithNone() {
        HorsesChoose x = Due.fairOf("FR0000");
        DUE.due("holds() without horses", x.holds(), 1);
        DUE.due("sure(0) without horses", x.sure(0), 9);
        Due.tell(x, "FH10000000");
        DUE.due("holds() without riders", x.holds(), 1);
        DUE.due("sure(0) without riders", x.sure(0), -1);
        // Nobody bolts when the rider has the horse, but it is not worth enough.
        Due.tell(x, "FH10000001R0000");
        DUE.due("holds() of one not worth enough", x.holds(), 1);
        DUE.due("sure(0) of one not worth enough", x.sure(0), 9);
        x = Due.fairOf(FairTest.FAIR);
        DUE.due("sure(2) asked first", x.sure(2), 1);
        DUE.due("holds()", x.holds(), 1);
        int[] want = {9, 0, 1, 0};
        for (int r = 0; r < 4; r++) {
            DUE.due("sure(" + r + ")", x.sure(r), want[r]);
        }
        x.dress(0, 0);
        x.dress(0, 0);
        DUE.due("sure(0) dressed", x.sure(0), 0);
        DUE.due("sure(3) when 0 is dressed", x.sure(3), 9);
    }

    private static void forging() {
        HorsesChoose x = Due.fairOf(FairTest.FAIR);
        DUE.due("forged(1, 0, 0), its own", x.forged(1, 0, 0), 0);
        DUE.due("forged(1, 0, 1), its own", x.forged(1, 0, 1), 0);
        DUE.due("forged(0, 0, 0)", x.forged(0, 0, 0), 2);
        DUE.due("forged(0, 0, 1)", x.forged(0, 0, 1), 200);
        DUE.due("forged(0, 1, 0)", x.forged(0, 1, 0), 6);
        DUE.due("forged(0, 1, 1)", x.forged(0, 1, 1), 6);
        DUE.due("forged(1, 1, 0), as like as 2, the lesser", x.forged(1, 1, 0), 9);
        DUE.due("forged(1, 1, 1), as like as 2, the lesser", x.forged(1, 1, 1), 9);
        DUE.due("forged(3, 1, 0), it likes its own better", x.forged(3, 1, 0), -9);
        x.dress(0, 0);
        DUE.due("forged(0, 0, 0) from what shows", x.forged(0, 0, 0), 1);
        DUE.due("forged(0, 0, 1) from what shows", x.forged(0, 0, 1), 100);
        DUE.due("forged(0, 0, 2)", x.forged(0, 0, 2), -2);
        DUE.due("forged(0, 0, -1)", x.forged(0, 0, -1), -2);
        DUE.due("forged(4, 0, 2)", x.forged(4, 0, 2), -1);
        DUE.due("forged(-1, 0, 0)", x.forged(-1, 0, 0), -1);
        DUE.due("forged(0, 2, 0)", x.forged(0, 2, 0), -1);
        DUE.due("forged(0, -1, 0)", x.forged(0, -1, 0), -1);
        DUE.due("rider(0, 1) is as it was", x.rider(0, 1), 612);
        DUE.due("about(3) is as it was", x.about(3), 1);
    }

    private static void forgingTies() {
        HorsesChoose x = Due.fairOf(CROSSED);
        DUE.due("forged(1, 0, 0), it likes another", x.forged(1, 0, 0), -9);
        DUE.due("forged(1, 0, 1), it likes another", x.forged(1, 0, 1), -9);
        // 2 of trait 0 and 1 of trait 1 and 1 of trait 2 all cost 1: the last is the least.
        Due.tell(x, "FH11110009R2330");
        DUE.due("forged(0, 0, 1)", x.forged(0, 0, 1), 1);
        Due.tell(x, "FH13110018R2220");
        DUE.due("forged(0, 0, 0), the trait that weighs most", x.forged(0, 0, 0), 3);
        DUE.due("forged(0, 0, 1), from 10 to 18 by 3, 3, 3", x.forged(0, 0, 1), 300);
        Due.tell(x, "FH13330081R9980");
        DUE.due("forged(0, 0, 1) to the most", x.forged(0, 0, 1), 1);
        Due.tell(x, "FH10330081R9990");
        DUE.due("forged(0, 0, 0), never enough", x.forged(0, 0, 0), -9);
        Due.tell(x, "FH13330081R0000");
        DUE.due("forged(0, 0, 0) of all", x.forged(0, 0, 0), 27);
        DUE.due("forged(0, 0, 1) of all", x.forged(0, 0, 1), 999);
    }

    private static void leaving() {
        HorsesChoose x = Due.fairOf(FairTest.FAIR);
        DUE.due("left()", x.left(), 0);
        Due.tell(x, "FH20000000H10000000H30000000R0000R0002R0001");
        // All ages and speeds are like: the first horse keeps two, the next one.
        DUE.due("left() of three", x.left(), 4);
        x.lead(0, 2);
        DUE.due("left() looks at nobody TAKEN", x.left(), 4);
        Due.tell(x, "FH10000000H10000001");
        DUE.due("left() without riders", x.left(), 3);
        Due.tell(x, "FR0000");
        DUE.due("left() without horses", x.left(), 0);
    }

    private static void racing() {
        HorsesChoose x = Due.fairOf(FairTest.FAIR);
        DUE.due("race()", x.race(), 19);
        int[] want = {0, 0, 1, 9};
        for (int r = 0; r < 4; r++) {
            DUE.due("raceOf(" + r + ")", x.raceOf(r), want[r]);
        }
        DUE.due("raceOf(4)", x.raceOf(4), -1);
        DUE.due("raceOf(-1)", x.raceOf(-1), -1);
        x.dress(2, 0);
        x.dress(2, 0);
        x.dress(2, 0);
        x.dress(3, 2);
        x.dress(3, 2);
        x.dress(3, 2);
        x.dress(3, 2);
        x.dress(3, 2);
        // Rider 3 is worth 10 to horse 1 now: 7 and 1, with 6 and 6.
        DUE.due("raceOf(3) dressed", x.raceOf(3), 1);
        DUE.due("race() dressed", x.race(), 20);
    }

    private static void racingTies() {
        HorsesChoose x = Due.fairOf("FH10000081H10000081R0000R0000R0000");
        DUE.due("race() for nothing", x.race(), 0);
        DUE.due("raceOf(0) for nothing", x.raceOf(0), 0);
        DUE.due("raceOf(1) for nothing", x.raceOf(1), 1);
        DUE.due("raceOf(2) for nothing", x.raceOf(2), 9);
        Due.tell(x, "FH10001000H10002000R0000");
        DUE.due("race() of one", x.race(), 2);
        DUE.due("raceOf(0) of one", x.raceOf(0), 1);
        Due.tell(x, "FH33339000R9990R9990R9990R9990");
        DUE.due("race() of the most", x.race(), 51);
        DUE.due("raceOf(2) of the most", x.raceOf(2), 0);
        DUE.due("raceOf(3) of the most", x.raceOf(3), 9);
        Due.tell(x, "FR0000");
        DUE.due("raceOf(0) without horses", x.raceOf(0), 9);
        DUE.due("race() without horses", x.race(), 0);
    }

    private static void nothingChanges() {
        HorsesChoose x = Due.fairOf(CROSSED);
        x.lead(0, 0);
        x.dress(1, 1);
        x.held(0, true);
        x.held(1, false);
        x.holds();
        x.sure(0);
        x.forged(1, 0, 0);
        x.left();
        x.race();
        x.raceOf(0);
        x.chance(0, 0, 5, true);
        x.days(3);
        x.oats(0, 0, 1, 0);
        x.saddles(0, 0, 1, 0);
        DUE.due("horse(0, 5) after all", x.horse(0, 5), 1);
        DUE.due("about(2) after all", x.about(2), 1);
        DUE.due("rider(1, 1) after all", x.rider(1, 1), 920);
        DUE.due("about(3) after all", x.about(3), 1);
        DUE.due("about(4) after all", x.about(4), 2);
    }
}
