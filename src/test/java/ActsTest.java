/** Promises 10 to 14: led, dressed, given back, the bell, undone. */
public final class ActsTest {
    private static final Due DUE = new Due();

    public static void main(String[] args) {
        leading();
        leadingLikeOnes();
        leadingRefused();
        dressing();
        givingBack();
        ringing();
        ringingForAll();
        undoing();
        forgetting();
        DUE.end();
    }

    private static void leading() {
        HorsesChoose x = Due.fairOf(FairTest.FAIR);
        DUE.due("lead(0, 0), just enough", x.lead(0, 0), 1);
        DUE.due("lead(1, 0)", x.lead(1, 0), 1);
        DUE.due("lead(2, 0), not enough", x.lead(2, 0), 0);
        DUE.due("about(4) counts the refused one", x.about(4), 3);
        DUE.due("lead(3, 0) in 0's place", x.lead(3, 0), 1);
        DUE.due("horse(0, 5)", x.horse(0, 5), 10);
        DUE.due("rider(0, 3) is given back", x.rider(0, 3), -9);
        DUE.due("lead(0, 0) is liked least", x.lead(0, 0), 0);
        DUE.due("horse(0, 5) after it", x.horse(0, 5), 10);
        x.dress(0, 0);
        x.dress(0, 0);
        DUE.due("lead(0, 0) as like as 3, the lesser", x.lead(0, 0), 1);
        DUE.due("horse(0, 5) then", x.horse(0, 5), 3);
        DUE.due("lead(3, 0) as like as 0, the greater", x.lead(3, 0), 0);
        DUE.due("lead(3, 1)", x.lead(3, 1), 1);
        DUE.due("lead(2, 1) in 3's place", x.lead(2, 1), 1);
        DUE.due("about(2)", x.about(2), 7);
    }

    private static void leadingLikeOnes() {
        HorsesChoose x = Due.fairOf("FH20000000R0000R0000R0000R0000");
        DUE.due("lead(1, 0)", x.lead(1, 0), 1);
        DUE.due("lead(3, 0)", x.lead(3, 0), 1);
        DUE.due("lead(2, 0) for 3", x.lead(2, 0), 1);
        DUE.due("horse(0, 5)", x.horse(0, 5), 6);
        DUE.due("lead(3, 0) is the greatest", x.lead(3, 0), 0);
        DUE.due("lead(0, 0) for 2", x.lead(0, 0), 1);
        DUE.due("horse(0, 5) then", x.horse(0, 5), 3);
    }

    private static void leadingRefused() {
        HorsesChoose x = Due.fairOf(FairTest.FAIR);
        x.lead(0, 0);
        DUE.due("lead(0, 0), TAKEN", x.lead(0, 0), -3);
        DUE.due("lead(0, 1), TAKEN", x.lead(0, 1), -3);
        DUE.due("lead(0, 2), TAKEN", x.lead(0, 2), -1);
        DUE.due("lead(1, 2)", x.lead(1, 2), -1);
        DUE.due("lead(1, -1)", x.lead(1, -1), -1);
        DUE.due("lead(4, 0)", x.lead(4, 0), -1);
        DUE.due("lead(-1, 0)", x.lead(-1, 0), -1);
        DUE.due("about(4)", x.about(4), 1);
        DUE.due("horse(0, 5)", x.horse(0, 5), 1);
    }

    private static void dressing() {
        HorsesChoose x = Due.fairOf(FairTest.FAIR);
        DUE.due("dress(0, 1)", x.dress(0, 1), 2);
        DUE.due("dress(0, 1) more", x.dress(0, 1), 3);
        DUE.due("dress(3, 2)", x.dress(3, 2), 4);
        DUE.due("about(3)", x.about(3), 3);
        DUE.due("about(4)", x.about(4), 3);
        DUE.due("dress(1, 0) shows 9 by truth", x.dress(1, 0), -4);
        DUE.due("dress(3, 0)", x.dress(3, 0), 8);
        DUE.due("dress(3, 0) more", x.dress(3, 0), 9);
        DUE.due("dress(3, 0) shows 9", x.dress(3, 0), -4);
        DUE.due("dress(1, 3)", x.dress(1, 3), -2);
        DUE.due("dress(1, -1)", x.dress(1, -1), -2);
        DUE.due("dress(4, 3)", x.dress(4, 3), -1);
        DUE.due("dress(-1, 0)", x.dress(-1, 0), -1);
        DUE.due("about(3) then", x.about(3), 5);
        DUE.due("about(4) then", x.about(4), 5);
        DUE.due("rider(3, 1)", x.rider(3, 1), 924);
        x.lead(3, 0);
        DUE.due("dress(3, 1) of one that is TAKEN", x.dress(3, 1), 3);
    }

    private static void givingBack() {
        HorsesChoose x = Due.fairOf(FairTest.FAIR);
        DUE.due("giveBack(2), not TAKEN", x.giveBack(2), -3);
        x.lead(2, 1);
        x.lead(1, 0);
        DUE.due("giveBack(2)", x.giveBack(2), 1);
        DUE.due("giveBack(2) again", x.giveBack(2), -3);
        DUE.due("about(2)", x.about(2), 2);
        DUE.due("giveBack(1)", x.giveBack(1), 0);
        DUE.due("giveBack(4)", x.giveBack(4), -1);
        DUE.due("giveBack(-1)", x.giveBack(-1), -1);
        DUE.due("about(4)", x.about(4), 4);
    }

    private static void ringing() {
        HorsesChoose x = Due.fairOf(FairTest.FAIR);
        x.dress(2, 0);
        DUE.due("lead(2, 0), forged", x.lead(2, 0), 1);
        DUE.due("lead(1, 0)", x.lead(1, 0), 1);
        DUE.due("bell()", x.bell(), 4);
        DUE.due("about(2)", x.about(2), 2);
        DUE.due("rider(2, 1)", x.rider(2, 1), 445);
        DUE.due("about(3): spent is spent", x.about(3), 1);
        DUE.due("about(4)", x.about(4), 4);
        DUE.due("bell() again", x.bell(), 0);
        DUE.due("about(4) then", x.about(4), 5);
        DUE.due("dress(2, 0) after it", x.dress(2, 0), 5);
    }

    private static void ringingForAll() {
        HorsesChoose x = Due.fairOf("FH31000005H11000006R4000R5000R4000R4000R5000");
        for (int r = 0; r < 5; r++) {
            x.dress(r, 0);
        }
        x.lead(0, 0);
        x.lead(1, 0);
        x.lead(2, 0);
        x.lead(4, 1);
        DUE.due("about(2)", x.about(2), 23);
        DUE.due("bell() for two horses", x.bell(), 21);
        DUE.due("horse(0, 5)", x.horse(0, 5), 2);
        DUE.due("undo() of the bell", x.undo(), 9);
        DUE.due("about(2) then", x.about(2), 23);
        DUE.due("horse(1, 5)", x.horse(1, 5), 16);
        DUE.due("rider(3, 1)", x.rider(3, 1), 500);
        DUE.due("about(3)", x.about(3), 5);
    }

    private static void undoing() {
        HorsesChoose x = Due.fairOf(FairTest.FAIR);
        x.lead(0, 0);
        x.lead(1, 0);
        x.lead(3, 0);
        DUE.due("undo() of who gave back 0", x.undo(), 2);
        DUE.due("horse(0, 5)", x.horse(0, 5), 3);
        x.dress(0, 0);
        DUE.due("undo() of the oat", x.undo(), 2);
        DUE.due("about(3)", x.about(3), 0);
        DUE.due("rider(0, 1)", x.rider(0, 1), 512);
        x.giveBack(1);
        DUE.due("undo() of giving back", x.undo(), 2);
        DUE.due("rider(1, 3)", x.rider(1, 3), 0);
        x.lead(2, 0);
        DUE.due("undo() of the refused one", x.undo(), 2);
        DUE.due("undo()", x.undo(), 1);
        DUE.due("undo()", x.undo(), 0);
        DUE.due("about(2)", x.about(2), 0);
        DUE.due("undo() of nothing", x.undo(), -3);
    }

    private static void forgetting() {
        HorsesChoose x = Due.fairOf("FR0000R0000R0000");
        for (int i = 1; i <= 9; i++) {
            x.dress(0, 0);
        }
        for (int i = 1; i <= 8; i++) {
            x.dress(1, 0);
        }
        DUE.due("about(4) of 17 acts", x.about(4), 14);
        for (int i = 13; i >= 0; i--) {
            DUE.due("undo()", x.undo(), i);
        }
        DUE.due("undo() of what is forgotten", x.undo(), -3);
        DUE.due("rider(0, 1)", x.rider(0, 1), 300);
        DUE.due("rider(1, 1)", x.rider(1, 1), 0);
        DUE.due("about(3)", x.about(3), 3);
        x.bell();
        DUE.due("about(4) after it", x.about(4), 1);
        DUE.due("undo() after it", x.undo(), 0);
        DUE.due("rider(0, 1) after it", x.rider(0, 1), 300);
    }
}
