/** Promises 23 to 28: choices, what is learnt of them, whom to lead next, oats bid, saddles worn. */
public final class LearntTest {
    private static final Due DUE = new Due();

    public static void main(String[] args) {
        choosing();
        unchoosing();
        learning();
        learningFromGoneRiders();
        leadingNext();
        leadingNextWhenLearnt();
        bidding();
        biddingRefused();
        wearing();
        wearingByTruth();
        wearingRefused();
        DUE.end();
    }

    private static void choosing() {
        HorsesChoose x = Due.fairOf(FairTest.FAIR);
        DUE.due("choose(0, 0)", x.choose(0, 0), -2);
        DUE.due("choose(4, 4)", x.choose(4, 4), -1);
        DUE.due("choose(4, 0)", x.choose(4, 0), -1);
        DUE.due("choose(0, 4)", x.choose(0, 4), -1);
        DUE.due("choose(-1, 0)", x.choose(-1, 0), -1);
        DUE.due("choose(0, -1)", x.choose(0, -1), -1);
        DUE.due("about(5) after refusals", x.about(5), 0);
        for (int i = 1; i <= 6; i++) {
            DUE.due("choose(2, 3)", x.choose(2, 3), i);
        }
        DUE.due("choose(0, 1) to 6", x.choose(0, 1), -4);
        DUE.due("choose(1, 1) to 6", x.choose(1, 1), -2);
        DUE.due("choose(1, 4) to 6", x.choose(1, 4), -1);
        DUE.due("about(5)", x.about(5), 6);
        DUE.due("about(4): a choice is no act", x.about(4), 0);
    }

    private static void unchoosing() {
        HorsesChoose x = Due.fairOf(FairTest.FAIR);
        DUE.due("unchoose() of none", x.unchoose(), 0);
        x.choose(1, 0);
        x.choose(0, 1);
        DUE.due("learnt(0) of both", x.learnt(0), 0);
        DUE.due("unchoose()", x.unchoose(), 2);
        DUE.due("about(5)", x.about(5), 0);
        DUE.due("learnt(0) unchosen", x.learnt(0), 64);
        DUE.due("choose(1, 0) after it", x.choose(1, 0), 1);
    }

    private static void learning() {
        HorsesChoose x = Due.fairOf(FairTest.FAIR);
        DUE.due("learnt(0) of none", x.learnt(0), 64);
        DUE.due("learnt(1) of none", x.learnt(1), 0);
        DUE.due("learnt(2)", x.learnt(2), -2);
        DUE.due("learnt(-1)", x.learnt(-1), -2);
        // 512 before 900, of like ones too: y + 2 z is 4 x at least, 16 + 10 + 2 ways.
        x.choose(0, 1);
        DUE.due("learnt(0) of 0 before 1", x.learnt(0), 28);
        DUE.due("learnt(1) of 0 before 1", x.learnt(1), 0);
        x.unchoose();
        x.choose(1, 0);
        DUE.due("learnt(0) of 1 before 0", x.learnt(0), 36);
        DUE.due("learnt(1) of 1 before 0", x.learnt(1), 100);
        x.dress(0, 0);
        x.dress(0, 0);
        x.dress(0, 0);
        x.dress(0, 0);
        DUE.due("learnt(0) by truth alone", x.learnt(0), 36);
        // And 445 before 900: 4 y + 5 z is more than 5 x, and y + 2 z less than 4 x.
        x.choose(2, 1);
        DUE.due("learnt(1) of 2 before 1 before 0", x.learnt(1), 111);
        x.choose(0, 1);
        DUE.due("learnt(0) of what cannot be", x.learnt(0), 0);
        DUE.due("learnt(1) of what cannot be", x.learnt(1), -9);
    }

    private static void learningFromGoneRiders() {
        HorsesChoose x = Due.fairOf(FairTest.FAIR);
        x.choose(1, 3);
        x.choose(3, 1);
        DUE.due("learnt(0) of both", x.learnt(0), 0);
        Due.tell(x, "FR1000R0000R1000");
        DUE.due("about(5) of gone riders", x.about(5), 2);
        DUE.due("learnt(0) of gone riders", x.learnt(0), 64);
        x.choose(1, 0);
        DUE.due("learnt(0) of one that is", x.learnt(0), 0);
        Due.tell(x, FairTest.FAIR);
        x.unchoose();
        x.choose(1, 0);
        Due.tell(x, "FR1000R2000");
        DUE.due("learnt(0) by who is there now", x.learnt(0), 48);
        DUE.due("learnt(1) by who is there now", x.learnt(1), 100);
    }

    private static void leadingNext() {
        HorsesChoose x = Due.fairOf("F");
        DUE.due("next() without riders", x.next(), -9);
        Due.tell(x, "FR0000");
        DUE.due("next() of one", x.next(), -9);
        Due.tell(x, "FR0000R9990");
        DUE.due("next() of two", x.next(), 1);
        // 0 and 1, 0 and 2 part 16 from 48; 1 and 2 part 40 from 24.
        Due.tell(x, "FR0000R1000R0100");
        DUE.due("next() of three", x.next(), 12);
        // 0 and 1, 0 and 2 are parted alike.
        Due.tell(x, "FR0000R1000R1000");
        DUE.due("next() of like ones", x.next(), 1);
    }

    private static void leadingNextWhenLearnt() {
        HorsesChoose x = Due.fairOf("FR0000R1000R0100R0010");
        DUE.due("next() of four", x.next(), 12);
        // Left are the ways with x at least y, 40: 1 and 3 part 30 from 10, 2 and 3 part 20 from 20.
        x.choose(1, 2);
        DUE.due("learnt(0)", x.learnt(0), 40);
        DUE.due("next() when learnt", x.next(), 23);
        x.choose(2, 1);
        DUE.due("next() of nothing learnt", x.next(), -9);
    }

    private static void bidding() {
        HorsesChoose x = Due.fairOf("FH33100081H11000000R8100R0000R8200R0000");
        DUE.due("oats(0, 0, 1, 0), 25 more and the lesser", x.oats(0, 0, 1, 0), 1);
        DUE.due("oats(0, 0, 1, 1)", x.oats(0, 0, 1, 1), 0);
        DUE.due("oats(0, 1, 0, 0), told the other way", x.oats(0, 1, 0, 0), 1);
        DUE.due("oats(0, 1, 0, 1)", x.oats(0, 1, 0, 1), 0);
        DUE.due("oats(0, 2, 1, 0), 26 more and the greater", x.oats(0, 2, 1, 0), 1);
        DUE.due("oats(0, 0, 2, 0), 1 less", x.oats(0, 0, 2, 0), 0);
        DUE.due("oats(0, 0, 2, 1)", x.oats(0, 0, 2, 1), -9);
        DUE.due("oats(1, 0, 1, 0), 8 more", x.oats(1, 0, 1, 0), 0);
        DUE.due("oats(0, 1, 3, 0), like ones", x.oats(0, 1, 3, 0), 0);
        Due.tell(x, "FH13100000R0000R8100");
        DUE.due("oats(0, 0, 1, 0), 25 more and the greater", x.oats(0, 0, 1, 0), 0);
        DUE.due("oats(0, 1, 0, 1), 25 more and the greater", x.oats(0, 1, 0, 1), -9);
        x.dress(1, 1);
        DUE.due("oats(0, 0, 1, 0) as it shows", x.oats(0, 0, 1, 0), 1);
        DUE.due("oats(0, 0, 1, 1) as it shows", x.oats(0, 0, 1, 1), 0);
        DUE.due("about(3) after bids", x.about(3), 1);
    }

    private static void biddingRefused() {
        HorsesChoose x = Due.fairOf("FH33100081R8100R0000");
        DUE.due("oats(1, 0, 1, 0)", x.oats(1, 0, 1, 0), -1);
        DUE.due("oats(-1, 0, 1, 0)", x.oats(-1, 0, 1, 0), -1);
        DUE.due("oats(0, 2, 1, 0)", x.oats(0, 2, 1, 0), -1);
        DUE.due("oats(0, -1, 1, 0)", x.oats(0, -1, 1, 0), -1);
        DUE.due("oats(0, 0, 2, 5)", x.oats(0, 0, 2, 5), -1);
        DUE.due("oats(0, 0, -1, 0)", x.oats(0, 0, -1, 0), -1);
        DUE.due("oats(0, 2, 2, 0)", x.oats(0, 2, 2, 0), -1);
        DUE.due("oats(0, 1, 1, 0)", x.oats(0, 1, 1, 0), -2);
        DUE.due("oats(0, 0, 1, 2)", x.oats(0, 0, 1, 2), -2);
        DUE.due("oats(0, 0, 1, -1)", x.oats(0, 0, 1, -1), -2);
    }

    private static void saddles(HorsesChoose x, int[] told, int count, int ofAll) {
        String call = "saddles(" + told[0] + ", " + told[1] + ", " + told[2];
        DUE.due(call + ", 0)", x.saddles(told[0], told[1], told[2], 0), count);
        DUE.due(call + ", 1)", x.saddles(told[0], told[1], told[2], 1), ofAll);
    }

    private static void wearing() {
        // Horse 0 keeps two; 0, 1 and 3 are worth enough: 5, 9, 7 by the first kind, 1, 0, 2 by the next.
        HorsesChoose x = Due.fairOf(FairTest.FAIR);
        saddles(x, new int[] {0, 0, 14}, 1, 3);
        saddles(x, new int[] {0, 0, 16}, 1, 10);
        saddles(x, new int[] {0, 0, 5}, 1, 1);
        saddles(x, new int[] {0, 0, 0}, 1, 0);
        saddles(x, new int[] {0, 0, 21}, 0, -9);
        saddles(x, new int[] {0, 0, 4}, 0, -9);
        saddles(x, new int[] {0, 1, 0}, 2, 0);
        saddles(x, new int[] {0, 1, 1}, 2, 1);
        saddles(x, new int[] {0, 1, 2}, 2, 8);
        saddles(x, new int[] {0, 1, 3}, 1, 9);
        saddles(x, new int[] {0, 2, 2}, 2, 1);
        // Horse 1 keeps one; 2 and 3 are worth enough.
        saddles(x, new int[] {1, 1, 4}, 1, 4);
        saddles(x, new int[] {1, 1, 6}, 0, -9);
        Due.tell(x, "FH30000000R9000R9000R9000");
        saddles(x, new int[] {0, 0, 27}, 1, 7);
        saddles(x, new int[] {0, 0, 18}, 3, 0);
        Due.tell(x, "FH31000001R0100R1200");
        saddles(x, new int[] {0, 1, 1}, 0, -9);
        saddles(x, new int[] {0, 1, 2}, 1, 2);
        Due.tell(x, "FH30000000");
        saddles(x, new int[] {0, 0, 0}, 1, 0);
        saddles(x, new int[] {0, 0, 1}, 0, -9);
    }

    private static void wearingByTruth() {
        HorsesChoose x = Due.fairOf(FairTest.FAIR);
        x.dress(2, 0);
        saddles(x, new int[] {0, 0, 4}, 1, 4);
        saddles(x, new int[] {0, 0, 5}, 1, 1);
        x.lead(1, 0);
        saddles(x, new int[] {0, 0, 9}, 2, 0);
    }

    private static void wearingRefused() {
        HorsesChoose x = Due.fairOf(FairTest.FAIR);
        DUE.due("saddles(2, 0, 0, 0)", x.saddles(2, 0, 0, 0), -1);
        DUE.due("saddles(-1, 3, 0, 0)", x.saddles(-1, 3, 0, 0), -1);
        DUE.due("saddles(0, 3, 0, 0)", x.saddles(0, 3, 0, 0), -2);
        DUE.due("saddles(0, -1, 0, 0)", x.saddles(0, -1, 0, 0), -2);
        DUE.due("saddles(0, 0, 28, 0)", x.saddles(0, 0, 28, 0), -2);
        DUE.due("saddles(0, 0, 27, 0)", x.saddles(0, 0, 27, 0), 0);
        DUE.due("saddles(0, 0, -1, 0)", x.saddles(0, 0, -1, 0), -2);
        DUE.due("saddles(0, 0, 0, 2)", x.saddles(0, 0, 0, 2), -2);
        DUE.due("saddles(0, 0, 0, -1)", x.saddles(0, 0, 0, -1), -2);
    }
}
