/** The edges that the document names for choices, what is learnt, bids and saddles: promises 23 to 28. */
public final class EdgesOfLearntTest {
    private static final Due DUE = new Due();

    public static void main(String[] args) {
        sixChoices();
        choicesStay();
        choicesOfGoneRiders();
        choicesOfLikeOnes();
        everyWayToWeigh();
        leastOfTheLearnt();
        oneIsLearnt();
        nothingIsLearnt();
        nextOfFew();
        nextThatPartsNothing();
        nextOfLikePairs();
        nextOfThoseLearnt();
        bidsAtTheEdge();
        bidsForAnyHorse();
        saddlesOfNobody();
        saddlesByHowManyItKeeps();
        saddlesAtTheLeastWorth();
        saddlesOfEachTrait();
        saddlesToTwentySeven();
        DUE.end();
    }

    private static void learnt(String when, HorsesChoose x, int many, int least) {
        DUE.due("learnt(0) " + when, x.learnt(0), many);
        DUE.due("learnt(1) " + when, x.learnt(1), least);
    }

    /** "6 such at most, none at first." */
    private static void sixChoices() {
        HorsesChoose x = Due.fairOf("FR0000R0000R0000R0000R0000");
        DUE.due("about(5) at first", x.about(5), 0);
        DUE.due("unchoose() at first", x.unchoose(), 0);
        for (int round = 0; round < 3; round++) {
            for (int i = 1; i <= 6; i++) {
                DUE.due("choose(0, 4)", x.choose(0, 4), i);
                DUE.due("about(5)", x.about(5), i);
            }
            DUE.due("choose(0, 4), the seventh", x.choose(0, 4), -4);
            DUE.due("about(5) then", x.about(5), 6);
            DUE.due("unchoose() of six", x.unchoose(), 6);
            DUE.due("unchoose() of none", x.unchoose(), 0);
        }
        // All six count, the last as well as the first.
        for (int i = 1; i <= 5; i++) {
            x.choose(0, 4);
        }
        learnt("of five", x, 64, 0);
        x.choose(4, 0);
        learnt("of the sixth", x, 0, -9);
    }

    private static void choicesStay() {
        HorsesChoose x = Due.fairOf("FR0000R1000");
        x.choose(1, 0);
        x.keep(0);
        learnt("of 1 before 0", x, 48, 100);
        x.again(0);
        x.dress(0, 0);
        x.undo();
        x.bell();
        DUE.due("about(5) after acts and slots", x.about(5), 1);
        Due.tell(x, "FR0000R0100");
        learnt("of 1 before 0 by another fair", x, 48, 10);
        x.write('x');
        DUE.due("fair() with a fault", x.fair(), -3);
        learnt("after LATE", x, 48, 10);
    }

    /** "Of RIDERS that there are not any more nothing is looked at": either one of the two. */
    private static void choicesOfGoneRiders() {
        String four = "FR5000R4000R3000R2000";
        HorsesChoose x = Due.fairOf(four + "R1000");
        x.choose(4, 0);
        learnt("of what cannot be by truth", x, 0, -9);
        Due.tell(x, four);
        learnt("when the better one is gone", x, 64, 0);
        DUE.due("about(5) of gone riders", x.about(5), 1);
        Due.tell(x, four + "R1000");
        learnt("when it is there again", x, 0, -9);
        x.unchoose();
        x.choose(1, 4);
        x.choose(0, 3);
        Due.tell(x, "FR0000R0000R0000R1000");
        learnt("when the worse one of one is gone", x, 16, 0);
        Due.tell(x, "FR0000R0000R0000");
        learnt("when both are gone", x, 64, 0);
        Due.tell(x, "F");
        learnt("when all are gone", x, 64, 0);
        DUE.due("about(5) when all are gone", x.about(5), 2);
        DUE.due("choose(0, 1) of gone riders", x.choose(0, 1), -1);
        DUE.due("unchoose() of gone riders", x.unchoose(), 2);
    }

    /** "Of like ones the lesser RIDER": a like one never is better than a lesser one. */
    private static void choicesOfLikeOnes() {
        HorsesChoose x = Due.fairOf("FR5550R5550");
        x.choose(0, 1);
        learnt("of the lesser one", x, 64, 0);
        x.unchoose();
        x.choose(1, 0);
        learnt("of the greater one", x, 0, -9);
    }

    /** "(0 .. 3 each; by truth alone)." */
    private static void everyWayToWeigh() {
        String[] texts = {"FR0000R1000", "FR0000R0100", "FR0000R0010", "FR0000R9990", "FR3000R0300", "FR0300R0030"};
        int[] many = {48, 48, 48, 63, 24, 24};
        int[] least = {100, 10, 1, 1, 10, 1};
        for (int i = 0; i < texts.length; i++) {
            HorsesChoose x = Due.fairOf(texts[i]);
            x.choose(1, 0);
            learnt("of '" + texts[i] + "'", x, many[i], least[i]);
        }
        HorsesChoose x = Due.fairOf("FR0000R1000");
        x.choose(1, 0);
        x.dress(0, 0);
        x.dress(0, 0);
        learnt("by truth, not as they show", x, 48, 100);
        DUE.due("next() by truth, not as they show", x.next(), 1);
    }

    /** Only 3 of one trait outweighs 9 of another by 1. */
    private static void leastOfTheLearnt() {
        HorsesChoose x = Due.fairOf("FR0910R4000R0500R0050");
        // 4 x is more than 9 y + z: 12 ways with y = 0, and 310, 311, 312.
        x.choose(1, 0);
        learnt("of 1 before 0", x, 15, 100);
        x.choose(2, 3);
        learnt("and 2 before 3", x, 5, 100);
        x.choose(3, 2);
        learnt("and 3 before 2", x, 0, -9);
        // 3 x is more than 8 y, y is z at least: three ways with y = 0, and 310, 311.
        Due.tell(x, "FR0800R3000R0500R0080");
        x.unchoose();
        x.choose(1, 0);
        x.choose(0, 3);
        learnt("of 1 before 0 before 3", x, 5, 100);
        x.unchoose();
        Due.tell(x, "FR0900R4000R0090");
        x.choose(1, 0);
        x.choose(2, 0);
        learnt("of 1 and 2 before 0", x, 11, 101);
    }

    /** Ways of which only one is learnt: one trait weighs 1, those of two others are more than twice that. */
    private static void oneIsLearnt() {
        String[] riders = {"R2000R0100R0010R0000R1000", "R0200R1000R0010R0000R0100", "R0020R1000R0100R0000R0010"};
        int[] least = {133, 313, 331};
        for (int i = 0; i < riders.length; i++) {
            HorsesChoose x = Due.fairOf("F" + riders[i]);
            x.choose(1, 0);
            x.choose(2, 0);
            x.choose(4, 3);
            learnt("of F" + riders[i], x, 1, least[i]);
        }
    }

    /** "NONE": two that cannot both be, over three riders. */
    private static void nothingIsLearnt() {
        HorsesChoose x = Due.fairOf("FR1230R3210R2220");
        x.choose(1, 0);
        learnt("of 1 before 0", x, 24, 100);
        x.choose(2, 1);
        learnt("of 2 before 1 before 0", x, 0, -9);
        DUE.due("next() when nothing is learnt", x.next(), -9);
        x.unchoose();
        DUE.due("next() when all are learnt", x.next(), 1);
    }

    /** "There are not two, or none is LEARNT." */
    private static void nextOfFew() {
        int[] want = {-9, -9, 1, 1, 1, 1};
        for (int riders = 0; riders <= 5; riders++) {
            HorsesChoose x = Due.fairOf("F" + "R0000".repeat(riders));
            DUE.due("next() of " + riders, x.next(), want[riders]);
        }
    }

    /** Two that part nothing are the best two, if no others do better. */
    private static void nextThatPartsNothing() {
        HorsesChoose x = Due.fairOf("FR9990R0000");
        DUE.due("next() of two that part nothing", x.next(), 1);
        x.choose(0, 1);
        DUE.due("next() when it is known", x.next(), 1);
        x = Due.fairOf("FR0000R9990");
        DUE.due("next() of two that part one from 63", x.next(), 1);
        x.choose(0, 1);
        learnt("of 000 alone", x, 1, 0);
        DUE.due("next() of one way that is learnt", x.next(), 1);
    }

    /** "10 times the lesser and the greater one; of like ones the least." */
    private static void nextOfLikePairs() {
        DUE.due("next(), the last pair alone", Due.fairOf("FR9990R9990R9990R5000R0500").next(), 34);
        DUE.due("next(), the first pair alone", Due.fairOf("FR5000R0500R0000R0000R0000").next(), 1);
        DUE.due("next(), 0 and the last", Due.fairOf("FR5000R0000R0000R0000R0500").next(), 4);
        DUE.due("next(), 0 and 1 of four for the same", Due.fairOf("FR5000R0500R5000R0500").next(), 1);
        DUE.due("next(), 1 and 3 for the same", Due.fairOf("FR9990R5000R0000R0500R0500").next(), 13);
    }

    /** Of the ways that are learnt only. */
    private static void nextOfThoseLearnt() {
        HorsesChoose x = Due.fairOf("FR5000R0500R0050");
        // Of 64 ways 40 and 24 for each pair; of the 40 with x of y at least: 30 and 10, 20 and 20.
        DUE.due("next() of all ways", x.next(), 1);
        x.choose(0, 1);
        learnt("of 0 before 1", x, 40, 0);
        DUE.due("next() of those learnt", x.next(), 12);
        x.choose(1, 2);
        learnt("of 0 before 1 before 2", x, 20, 0);
        DUE.due("next() when the order is known", x.next(), 1);
    }

    private static void bids(HorsesChoose x, int i, int j, int many, int first) {
        DUE.due("oats(0, " + i + ", " + j + ", 0)", x.oats(0, i, j, 0), many);
        DUE.due("oats(0, " + i + ", " + j + ", 1)", x.oats(0, i, j, 1), first);
    }

    /** "Bid 0 .. 5", "each OAT 5 more (of like ones the lesser RIDER)": 25 is the most that bids add. */
    private static void bidsAtTheEdge() {
        // Worth 26, 25, 24 and 0 twice.
        HorsesChoose x = Due.fairOf("FH13310081R8020R8010R8000R0000R0000");
        bids(x, 0, 3, 1, 0);
        bids(x, 3, 0, 1, 0);
        bids(x, 1, 3, 1, 0);
        bids(x, 2, 3, 0, -9);
        bids(x, 3, 4, 0, -9);
        bids(x, 4, 3, 0, -9);
        bids(x, 0, 1, 0, -9);
        // The same worths, the greater one told later: 25 is not enough for it.
        x = Due.fairOf("FH13310081R0000R8000R8010R8020");
        bids(x, 1, 0, 0, -9);
        bids(x, 2, 0, 0, -9);
        bids(x, 3, 0, 1, 0);
        bids(x, 0, 3, 1, 0);
        bids(x, 0, 2, 0, -9);
        x.dress(2, 2);
        bids(x, 0, 2, 1, 0);
        x.bell();
        bids(x, 0, 2, 0, -9);
    }

    /** "A HORSE ... whether it takes that or not": however many it keeps, whoever it keeps. */
    private static void bidsForAnyHorse() {
        for (int q = 1; q <= 3; q++) {
            HorsesChoose x = Due.fairOf("FH" + q + "3300000R9000R0000");
            bids(x, 0, 1, 1, 0);
            x.lead(1, 0);
            bids(x, 0, 1, 1, 0);
        }
        bids(Due.fairOf("FH10000081R9990R9990"), 0, 1, 0, -9);
        bids(Due.fairOf("FH13330081R9990R0000"), 1, 0, 1, 0);
    }

    private static void worn(HorsesChoose x, int trait, int v, int many, int ofAll) {
        DUE.due("saddles(0, " + trait + ", " + v + ", 0)", x.saddles(0, trait, v, 0), many);
        DUE.due("saddles(0, " + trait + ", " + v + ", 1)", x.saddles(0, trait, v, 1), ofAll);
    }

    /** "None of them is one, too." */
    private static void saddlesOfNobody() {
        HorsesChoose x = Due.fairOf("FH10000000");
        worn(x, 0, 0, 1, 0);
        worn(x, 2, 1, 0, -9);
        worn(x, 0, 27, 0, -9);
        x = Due.fairOf("FH11000001R0500");
        worn(x, 0, 0, 1, 0);
        worn(x, 1, 5, 0, -9);
        x = Due.fairOf("FH10000000R5000");
        worn(x, 0, 0, 1, 0);
        worn(x, 0, 5, 1, 1);
        worn(x, 1, 0, 2, 0);
    }

    /** "No more than it keeps": how many it can keep, not how many it keeps now. */
    private static void saddlesByHowManyItKeeps() {
        int[] ofNothing = {6, 16, 26};
        int[] ofTwo = {0, 10, 10};
        for (int q = 1; q <= 3; q++) {
            HorsesChoose x = Due.fairOf("FH" + q + "0000000" + "R0110".repeat(5));
            worn(x, 0, 0, ofNothing[q - 1], 0);
            worn(x, 1, 2, ofTwo[q - 1], q == 1 ? -9 : 0);
            worn(x, 2, 3, q == 3 ? 10 : 0, q == 3 ? 0 : -9);
            worn(x, 1, 4, 0, -9);
            x.lead(0, 0);
            worn(x, 0, 0, ofNothing[q - 1], 0);
        }
    }

    /** "Each worth enough": as they show; "whose TRAITS of one kind (by truth)". */
    private static void saddlesAtTheLeastWorth() {
        HorsesChoose x = Due.fairOf("FH31000005R4200R5200R5300");
        worn(x, 1, 2, 1, 2);
        worn(x, 1, 5, 1, 6);
        worn(x, 1, 7, 0, -9);
        x.dress(0, 0);
        worn(x, 1, 2, 2, 0);
        worn(x, 1, 7, 1, 7);
        worn(x, 0, 14, 1, 7);
        worn(x, 0, 15, 0, -9);
        worn(x, 0, 4, 1, 1);
        x.bell();
        worn(x, 0, 4, 0, -9);
    }

    /** Who is of all of several sets. */
    private static void saddlesOfEachTrait() {
        HorsesChoose x = Due.fairOf("FH30000000R9120R1340R1040R8000");
        worn(x, 0, 10, 3, 0);
        worn(x, 0, 9, 3, 0);
        worn(x, 0, 11, 1, 7);
        worn(x, 0, 18, 2, 9);
        worn(x, 1, 4, 3, 3);
        worn(x, 1, 3, 4, 2);
        worn(x, 2, 6, 4, 1);
        worn(x, 2, 8, 2, 6);
        worn(x, 2, 10, 1, 7);
    }

    /** "v (0 .. 27)." */
    private static void saddlesToTwentySeven() {
        HorsesChoose x = Due.fairOf("FH30000000R9000R9000R9000R9000R9000");
        worn(x, 0, 27, 10, 0);
        worn(x, 0, 26, 0, -9);
        worn(x, 0, 0, 1, 0);
        x = Due.fairOf("FH20000000R9000R9000R9000");
        worn(x, 0, 27, 0, -9);
        worn(x, 0, 18, 3, 0);
        DUE.due("saddles(0, 0, 28, 0)", x.saddles(0, 0, 28, 0), -2);
        DUE.due("saddles(0, 0, -1, 0)", x.saddles(0, 0, -1, 0), -2);
    }
}
