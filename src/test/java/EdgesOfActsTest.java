/** The edges that the document names for what a fair tells and for acts: promises 6 to 14. */
public final class EdgesOfActsTest {
    private static final Due DUE = new Due();
    private static final String FIVE_ALIKE = "R5550R5550R5550R5550R5550";

    public static void main(String[] args) {
        greatestAnswers();
        tastesAtTheirEnds();
        nineAtMost();
        keepingOneTwoThree();
        takingAtLeast();
        likedLeastAsTheyShow();
        givenBackGoOn();
        dressedToNine();
        oatsStaySpent();
        placesThatAreGivenBack();
        bellOfNobody();
        bellAtTheLeastWorth();
        bellOfAll();
        fourteenActs();
        actsGoRound();
        whatIsNoAct();
        whatIsAnAct();
        DUE.end();
    }

    /** The most that promises 6 and 7 can tell. */
    private static void greatestAnswers() {
        HorsesChoose x = Due.fairOf("F" + "H30000000".repeat(4) + "R0000".repeat(5));
        DUE.due("about(7) when nobody is TAKEN", x.about(7), 20);
        for (int r = 0; r < 5; r++) {
            x.lead(r, 3 - r % 2);
        }
        DUE.due("about(2) of all", x.about(2), 31);
        DUE.due("horse(3, 5)", x.horse(3, 5), 21);
        DUE.due("horse(2, 5)", x.horse(2, 5), 10);
        DUE.due("horse(0, 5) of none", x.horse(0, 5), 0);
        // All like horse 0 best, then 1, then 2: three pairs for each on 3, two for each on 2.
        DUE.due("about(7) of all", x.about(7), 13);
        Due.tell(x, "FH33339981H10000000R9993R0000");
        int[] most = {3, 333, 9, 9, 81};
        int[] fewest = {1, 0, 0, 0, 0};
        for (int what = 0; what < 5; what++) {
            DUE.due("horse(0, " + what + "), the most", x.horse(0, what), most[what]);
            DUE.due("horse(1, " + what + "), the fewest", x.horse(1, what), fewest[what]);
        }
        DUE.due("rider(0, 0), the most", x.rider(0, 0), 999);
        DUE.due("rider(0, 1), the most", x.rider(0, 1), 999);
        DUE.due("rider(0, 2), the most", x.rider(0, 2), 3);
        DUE.due("rider(1, 0), the fewest", x.rider(1, 0), 0);
        DUE.due("rider(1, 2), the fewest", x.rider(1, 2), 0);
    }

    /** "0 the greater SPEED, 1 the lesser AGE, 2 the greater AGE, 3 the lesser SPEED (of like ones the lesser)". */
    private static void tastesAtTheirEnds() {
        String riders = "R0000R0001R0002R0003";
        int[][] want = {{0, 1, 0, 1}, {1, 0, 1, 0}, {0, 0, 0, 0}};
        String[] texts = {"FH10009900H10000000" + riders, "FH10000000H10009900" + riders,
            "FH10005500H10005500" + riders};
        for (int i = 0; i < texts.length; i++) {
            HorsesChoose x = Due.fairOf(texts[i]);
            for (int r = 0; r < 4; r++) {
                DUE.due("rider(" + r + ", 4) of '" + texts[i] + "'", x.rider(r, 4), want[i][r]);
            }
        }
        // "Any one rather than none": the slowest and oldest for who likes others.
        HorsesChoose x = Due.fairOf("FH30000900" + riders);
        for (int r = 0; r < 4; r++) {
            DUE.due("rider(" + r + ", 4) of one horse", x.rider(r, 4), 0);
            DUE.due("bolts(" + r + ", 0) rather than none", x.bolts(r, 0), 1);
            DUE.due("held(" + r + ", true) rather than none", x.held(r, true), r < 3 ? 0 : -9);
        }
    }

    /** "Truth and what it is DRESSED by, 9 at most", "each by what the HORSE WEIGHS it, together". */
    private static void nineAtMost() {
        HorsesChoose x = Due.fairOf("FH13330000H10000000H10010000H12100000R0000R8990");
        int[] ofNine = {81, 0, 9, 27};
        for (int trait = 0; trait < 3; trait++) {
            for (int shows = 1; shows <= 9; shows++) {
                DUE.due("dress(0, " + trait + ")", x.dress(0, trait), shows);
            }
            DUE.due("dress(0, " + trait + ") beyond 9", x.dress(0, trait), -4);
        }
        for (int h = 0; h < 4; h++) {
            DUE.due("worth(" + h + ", 0) of 999", x.worth(h, 0), ofNine[h]);
        }
        DUE.due("rider(0, 1)", x.rider(0, 1), 999);
        DUE.due("rider(0, 0) is the truth", x.rider(0, 0), 0);
        DUE.due("about(3): 27 oats", x.about(3), 27);
        DUE.due("about(4): 14 acts", x.about(4), 14);
        DUE.due("dress(1, 1) of 9 by truth", x.dress(1, 1), -4);
        DUE.due("dress(1, 0) of 8 by truth", x.dress(1, 0), 9);
        DUE.due("dress(1, 0) of 9 then", x.dress(1, 0), -4);
        DUE.due("about(3): 28 oats", x.about(3), 28);
    }

    /** "A HORSE that keeps q (1 .. 3)": at q it takes who is liked better than the one it likes least. */
    private static void keepingOneTwoThree() {
        for (int q = 1; q <= 3; q++) {
            HorsesChoose x = Due.fairOf("FH" + q + "1000000" + FIVE_ALIKE);
            for (int r = 4; r >= 0; r--) {
                DUE.due("keeps " + q + ": lead(" + r + ", 0), the lesser of like ones", x.lead(r, 0), 1);
                int most = Math.min(q, 5 - r);
                DUE.due("keeps " + q + ": horse(0, 5)", x.horse(0, 5), ((1 << most) - 1) << r);
            }
            for (int r = q; r < 5; r++) {
                DUE.due("keeps " + q + ": lead(" + r + ", 0), the greater of like ones", x.lead(r, 0), 0);
                DUE.due("keeps " + q + ": horse(0, 5) stays", x.horse(0, 5), (1 << q) - 1);
            }
            DUE.due("keeps " + q + ": about(4)", x.about(4), 10 - q);
        }
    }

    /** "If it is worth less than the HORSE takes at least, it is refused", 00 and 81 too. */
    private static void takingAtLeast() {
        HorsesChoose x = Due.fairOf("FH33330081H10000000H10000001R9980R9990R0000");
        DUE.due("lead(0, 0), 78 for 81", x.lead(0, 0), 0);
        DUE.due("lead(1, 0), 81 for 81", x.lead(1, 0), 1);
        DUE.due("lead(2, 2), 0 for 1", x.lead(2, 2), 0);
        DUE.due("lead(2, 1), 0 for 0", x.lead(2, 1), 1);
        DUE.due("about(4): refused ones are acts", x.about(4), 4);
        x.dress(0, 2);
        DUE.due("lead(0, 0), 81 for 81 by an oat", x.lead(0, 0), 1);
        DUE.due("horse(0, 5)", x.horse(0, 5), 3);
        // Less than at least is refused, even if the horse keeps nobody or who is worth no more.
        Due.tell(x, "FH11000005R5000R4000");
        x.lead(0, 0);
        DUE.due("lead(1, 0), 4 for 5, full", x.lead(1, 0), 0);
        x.giveBack(0);
        DUE.due("lead(1, 0), 4 for 5, empty", x.lead(1, 0), 0);
        DUE.due("lead(0, 0), 5 for 5", x.lead(0, 0), 1);
    }

    /** The one that it likes least is the one that shows so now, not when it was led. */
    private static void likedLeastAsTheyShow() {
        HorsesChoose x = Due.fairOf("FH21000000R5000R6000R7000R6000");
        x.lead(0, 0);
        x.lead(1, 0);
        x.dress(0, 0);
        x.dress(0, 0);
        DUE.due("lead(3, 0), as like as 1, the greater", x.lead(3, 0), 0);
        DUE.due("lead(2, 0) in 1's place", x.lead(2, 0), 1);
        DUE.due("horse(0, 5)", x.horse(0, 5), 5);
        DUE.due("rider(1, 3) is given back", x.rider(1, 3), -9);
        DUE.due("lead(1, 0) is liked least", x.lead(1, 0), 0);
    }

    private static void givenBackGoOn() {
        HorsesChoose x = Due.fairOf("FH11000000H10000000R5000R6000");
        x.lead(0, 0);
        x.lead(1, 0);
        DUE.due("giveBack(0) of who lost its place", x.giveBack(0), -3);
        DUE.due("lead(0, 1) of who lost its place", x.lead(0, 1), 1);
        DUE.due("about(2)", x.about(2), 3);
        DUE.due("lead(1, 1) of who has another", x.lead(1, 1), -3);
    }

    /** "DRESSED ... FULL: it SHOWS 9": taken or not, and it changes nobody's horse. */
    private static void dressedToNine() {
        HorsesChoose x = Due.fairOf("FH11000000R5000R6000");
        x.lead(0, 0);
        for (int shows = 7; shows <= 9; shows++) {
            DUE.due("dress(1, 0)", x.dress(1, 0), shows);
        }
        DUE.due("dress(1, 0) beyond 9", x.dress(1, 0), -4);
        DUE.due("horse(0, 5): who is taken stays", x.horse(0, 5), 1);
        DUE.due("dress(0, 0) of one taken", x.dress(0, 0), 6);
        DUE.due("lead(1, 0) then", x.lead(1, 0), 1);
        x.bell();
        DUE.due("dress(1, 0) after the bell", x.dress(1, 0), 7);
    }

    /** An oat is spent for each; the bell gives none back, an act undone does. */
    private static void oatsStaySpent() {
        HorsesChoose x = Due.fairOf("FR0000");
        for (int round = 1; round <= 3; round++) {
            for (int i = 0; i < 27; i++) {
                x.dress(0, i % 3);
            }
            DUE.due("about(3) of " + round + " rounds", x.about(3), 27 * round);
            DUE.due("dress(0, 0) beyond 9", x.dress(0, 0), -4);
            x.bell();
        }
        DUE.due("rider(0, 1) after the bell", x.rider(0, 1), 0);
        x.undo();
        DUE.due("rider(0, 1) before the bell", x.rider(0, 1), 999);
        x.undo();
        DUE.due("about(3) less an oat", x.about(3), 80);
        DUE.due("rider(0, 1) less an oat", x.rider(0, 1), 998);
    }

    private static void placesThatAreGivenBack() {
        HorsesChoose x = Due.fairOf("FH21000000R7000R6000R5000");
        x.lead(0, 0);
        x.lead(1, 0);
        DUE.due("lead(2, 0), full", x.lead(2, 0), 0);
        DUE.due("giveBack(0)", x.giveBack(0), 0);
        DUE.due("lead(2, 0), a place is free", x.lead(2, 0), 1);
        DUE.due("lead(0, 0), liked better than 2", x.lead(0, 0), 1);
        DUE.due("giveBack(2) of who lost its place", x.giveBack(2), -3);
        DUE.due("horse(0, 5)", x.horse(0, 5), 3);
    }

    private static void bellOfNobody() {
        for (String text : new String[] {"F", "FR0000", "FH10000000", "FH10000000R0000"}) {
            HorsesChoose x = Due.fairOf(text);
            DUE.due("bell() of '" + text + "'", x.bell(), 0);
            DUE.due("about(4) of '" + text + "'", x.about(4), 1);
            DUE.due("about(3) of '" + text + "'", x.about(3), 0);
        }
    }

    /** "Who is worth less to it than it takes at least": who is worth just that stays. */
    private static void bellAtTheLeastWorth() {
        HorsesChoose x = Due.fairOf("FH21000005H21000006R5000R4000R5000");
        for (int r = 0; r < 3; r++) {
            x.dress(r, 0);
        }
        DUE.due("lead(0, 0)", x.lead(0, 0), 1);
        DUE.due("lead(1, 0)", x.lead(1, 0), 1);
        DUE.due("lead(2, 1)", x.lead(2, 1), 1);
        DUE.due("bell(): 5 for 5 stays, 4 for 5 and 5 for 6 slip", x.bell(), 6);
        DUE.due("about(2)", x.about(2), 1);
        DUE.due("about(3)", x.about(3), 3);
        DUE.due("horse(1, 5)", x.horse(1, 5), 0);
    }

    private static void bellOfAll() {
        HorsesChoose x = Due.fairOf("FH30010001H30010001" + "R9900".repeat(5));
        for (int r = 0; r < 5; r++) {
            DUE.due("dress(" + r + ", 2)", x.dress(r, 2), 1);
            DUE.due("lead(" + r + ", " + r % 2 + ")", x.lead(r, r % 2), 1);
        }
        DUE.due("bell() of all", x.bell(), 31);
        DUE.due("about(2)", x.about(2), 0);
        DUE.due("undo()", x.undo(), 10);
        DUE.due("about(2) undone", x.about(2), 31);
        DUE.due("horse(0, 5) undone", x.horse(0, 5), 21);
        DUE.due("horse(1, 5) undone", x.horse(1, 5), 10);
    }

    /** "14 at most; when it is full, the first one is forgotten." */
    private static void fourteenActs() {
        for (int acts = 12; acts <= 16; acts++) {
            HorsesChoose x = Due.fairOf("FR0000R0000");
            for (int i = 0; i < acts; i++) {
                x.dress(i / 9, 0);
                DUE.due("about(4) of " + (i + 1), x.about(4), Math.min(14, i + 1));
            }
            int most = Math.min(14, acts);
            for (int left = most - 1; left >= 0; left--) {
                DUE.due("undo() of " + acts, x.undo(), left);
                DUE.due("about(4)", x.about(4), left);
                DUE.due("about(3)", x.about(3), acts - most + left);
            }
            DUE.due("undo() of what is forgotten", x.undo(), -3);
            DUE.due("about(3) stays", x.about(3), acts - most);
        }
    }

    /** The row goes round: acts undone make room for as many. */
    private static void actsGoRound() {
        HorsesChoose x = Due.fairOf("F" + "R0000".repeat(5));
        int oats = 0;
        int acts = 0;
        int lost = 0;
        int[] rounds = {20, -5, 9, -14, 3, -3, 14, -1, 2, -10, 13, -7, 30, -14};
        for (int more : rounds) {
            for (int i = 0; i < more; i++) {
                x.dress(oats / 27, oats / 9 % 3);
                oats++;
                lost = Math.max(lost, oats - 14);
            }
            for (int i = 0; i > more; i--) {
                oats--;
                DUE.due("undo() going round", x.undo(), oats - lost);
            }
            acts = oats - lost;
            DUE.due("about(3) going round", x.about(3), oats);
            DUE.due("about(4) going round", x.about(4), acts);
        }
        DUE.due("undo() at the end", x.undo(), -3);
    }

    /** Keeping, choosing, drawing and writing are no acts, and undo brings none of them back. */
    private static void whatIsNoAct() {
        HorsesChoose x = Due.fairOf(FairTest.FAIR);
        x.lead(0, 0);
        x.keep(0);
        x.choose(0, 1);
        x.seed(5);
        x.days(2);
        x.write('R');
        DUE.due("about(4)", x.about(4), 1);
        DUE.due("undo()", x.undo(), 0);
        DUE.due("undo() is none itself", x.undo(), -3);
        DUE.due("about(5): choices are not undone", x.about(5), 1);
        DUE.due("about(6): bytes are not undone", x.about(6), FairTest.FAIR.length() + 1);
        DUE.due("again(0): slots are not undone", x.again(0), 1);
    }

    /** "LED, also if it is refused there, DRESSED, GIVEN BACK, THE BELL": each undone brings back what was. */
    private static void whatIsAnAct() {
        HorsesChoose x = Due.fairOf("FH11000005R5000R4000");
        x.lead(0, 0);
        x.lead(1, 0);
        x.dress(1, 0);
        x.dress(1, 0);
        x.lead(1, 0);
        x.bell();
        x.giveBack(0);
        DUE.due("about(4) when the last was refused", x.about(4), 6);
        int[] taken = {2, 1, 1, 1, 1, 0};
        int[] shows = {600, 600, 500, 400, 400, 400};
        for (int i = 0; i < 6; i++) {
            DUE.due("undo()", x.undo(), 5 - i);
            DUE.due("about(2) after it", x.about(2), taken[i]);
            DUE.due("rider(1, 1) after it", x.rider(1, 1), shows[i]);
        }
        DUE.due("about(3) at the end", x.about(3), 0);
    }
}
