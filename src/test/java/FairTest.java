/** Promises 1 to 9: the text, its first fault, the fair that it tells. */
public final class FairTest {
    private static final Due DUE = new Due();
    static final String FAIR = "FH22005310H10117204R5120R9001R4452R7233";

    public static void main(String[] args) {
        newObject();
        writing();
        faults();
        faultsOfHorses();
        faultsOfRiders();
        tooMany();
        makingTheFair();
        makingItAnew();
        about();
        horses();
        riders();
        tastes();
        worths();
        DUE.end();
    }

    private static void newObject() {
        HorsesChoose x = new HorsesChoose();
        for (int what = 0; what <= 7; what++) {
            DUE.due("new: about(" + what + ")", x.about(what), 0);
        }
        DUE.due("new: horse(0, 0)", x.horse(0, 0), -1);
        DUE.due("new: rider(0, 0)", x.rider(0, 0), -1);
        DUE.due("new: undo()", x.undo(), -3);
        DUE.due("new: again(0)", x.again(0), -3);
        DUE.due("new: again(1)", x.again(1), -3);
        DUE.due("new: seed(7)", x.seed(7), 0);
        DUE.due("new: fault()", x.fault(), 0);
        DUE.due("new: holds()", x.holds(), 1);
        DUE.due("new: race()", x.race(), 0);
        DUE.due("new: left()", x.left(), 0);
        DUE.due("new: keep(0)", x.keep(0), 0);
        DUE.due("new: again(0) once kept", x.again(0), 0);
    }

    private static void writing() {
        HorsesChoose x = new HorsesChoose();
        DUE.due("write(-1)", x.write(-1), -2);
        DUE.due("write(256)", x.write(256), -2);
        DUE.due("about(6) after BAD", x.about(6), 0);
        DUE.due("write(0)", x.write(0), 1);
        DUE.due("write(255)", x.write(255), 2);
        for (int i = 3; i <= 64; i++) {
            DUE.due("write(70)", x.write(70), i);
        }
        DUE.due("write(70) to 64", x.write(70), -4);
        DUE.due("write(256) to 64", x.write(256), -2);
        DUE.due("about(6)", x.about(6), 64);
        DUE.due("wipe()", x.wipe(), 64);
        DUE.due("wipe() again", x.wipe(), 0);
        DUE.due("about(6) after wipe()", x.about(6), 0);
        DUE.due("write(70) after wipe()", x.write(70), 1);
        DUE.due("fault() after wipe()", x.fault(), -9);
    }

    private static void fault(String text, int want) {
        HorsesChoose x = new HorsesChoose();
        Due.write(x, text);
        DUE.due("fault() of '" + text + "'", x.fault(), want);
        DUE.due("about(6) of '" + text + "'", x.about(6), text.length());
        boolean told = want == -9;
        if (!told) {
            DUE.due("fair() of '" + text + "'", x.fair(), -3);
        }
    }

    private static void faults() {
        fault("", 0);
        fault("F", -9);
        fault("f", 0);
        fault("FF", 1);
        fault("H", 0);
        fault("Fh", 1);
        fault("F ", 1);
        fault(FAIR, -9);
        fault(FAIR.substring(0, FAIR.length() - 1), FAIR.length() - 1);
        fault(FAIR + "x", FAIR.length());
        fault(FAIR + "Rx", FAIR.length() + 1);
        fault("FR0000x\u00ff", 6);
        fault("F\u00c8", 1);
    }

    private static void faultsOfHorses() {
        String good = "FH33339981";
        fault(good, -9);
        fault("FH10000000", -9);
        for (int length = 2; length < good.length(); length++) {
            fault(good.substring(0, length), length);
        }
        String tooMuch = "..4444::9.";
        String tooLittle = "..0///////";
        for (int place = 2; place < good.length(); place++) {
            if (tooMuch.charAt(place) != '.') {
                fault(good.substring(0, place) + tooMuch.charAt(place) + good.substring(place + 1), place);
            }
            fault(good.substring(0, place) + tooLittle.charAt(place) + good.substring(place + 1), place);
            fault(good.substring(0, place) + "F", place);
        }
        fault("FH33339982", 9);
        fault("FH33339980", -9);
        fault("FH33339979", -9);
        fault("FH33339909", -9);
        fault("FH3333997:", 9);
        fault("FH33339990", 8);
    }

    private static void faultsOfRiders() {
        String good = "FR9993";
        fault(good, -9);
        fault("FR0000", -9);
        for (int length = 2; length < good.length(); length++) {
            fault(good.substring(0, length), length);
        }
        for (int place = 2; place < good.length(); place++) {
            fault(good.substring(0, place) + (place == 5 ? '4' : ':') + good.substring(place + 1), place);
            fault(good.substring(0, place) + "/" + good.substring(place + 1), place);
        }
    }

    private static void tooMany() {
        String horse = "H10000000";
        String rider = "R0000";
        fault("F" + horse.repeat(4), -9);
        fault("F" + horse.repeat(4) + "H", 37);
        fault("F" + horse.repeat(5), 37);
        fault("F" + rider.repeat(5), -9);
        fault("F" + rider.repeat(5) + "R", 26);
        fault("F" + rider.repeat(6), 26);
        fault("F" + horse.repeat(4) + rider.repeat(5), -9);
        fault("F" + horse.repeat(4) + rider.repeat(5) + "R", 62);
        fault("F" + rider.repeat(5) + horse.repeat(4) + "HR", 62);
        fault("F" + rider + horse.repeat(2) + rider.repeat(4) + horse.repeat(2), -9);
    }

    private static void makingTheFair() {
        HorsesChoose x = new HorsesChoose();
        DUE.due("fair() of nothing", x.fair(), -3);
        Due.write(x, "F");
        DUE.due("fair() of F", x.fair(), 0);
        Due.write(x, "R1234H10000000R1233");
        DUE.due("fair() with a FAULT", x.fair(), -3);
        DUE.due("about(1) after LATE", x.about(1), 0);
        x.wipe();
        Due.write(x, "FR1203H10000000R1233");
        DUE.due("about(0) before fair()", x.about(0), 0);
        DUE.due("fair() mixed", x.fair(), 12);
        DUE.due("about(6): the text stays", x.about(6), 20);
        DUE.due("rider(0, 0)", x.rider(0, 0), 120);
        DUE.due("rider(1, 0)", x.rider(1, 0), 123);
        x.wipe();
        DUE.due("about(1) when wiped", x.about(1), 2);
        Due.write(x, "F" + "H10000000".repeat(4) + "R0000".repeat(5));
        DUE.due("fair() of the most", x.fair(), 45);
    }

    private static void makingItAnew() {
        HorsesChoose x = Due.fairOf(FAIR);
        x.lead(0, 0);
        x.dress(0, 0);
        x.keep(0);
        x.keep(1);
        x.choose(0, 1);
        x.seed(55);
        DUE.due("fair() anew", x.fair(), 24);
        DUE.due("about(2) anew", x.about(2), 0);
        DUE.due("about(3) anew", x.about(3), 0);
        DUE.due("about(4) anew", x.about(4), 0);
        DUE.due("about(5) anew", x.about(5), 1);
        DUE.due("rider(0, 1) anew", x.rider(0, 1), 512);
        DUE.due("undo() anew", x.undo(), -3);
        DUE.due("again(0) anew", x.again(0), -3);
        DUE.due("again(1) anew", x.again(1), -3);
        DUE.due("seed(1) anew", x.seed(1), 55);
        x.lead(0, 0);
        x.keep(1);
        x.write('x');
        DUE.due("fair() with a FAULT", x.fair(), -3);
        DUE.due("about(2) after LATE", x.about(2), 1);
        DUE.due("about(4) after LATE", x.about(4), 1);
        DUE.due("again(1) after LATE", x.again(1), 1);
    }

    private static void about() {
        HorsesChoose x = Due.fairOf(FAIR);
        DUE.due("about(0)", x.about(0), 2);
        DUE.due("about(1)", x.about(1), 4);
        // 10 and 18 and 14 are enough for horse 0; 9 and 5 for horse 1.
        DUE.due("about(7)", x.about(7), 5);
        x.lead(1, 0);
        x.lead(3, 0);
        DUE.due("about(2)", x.about(2), 10);
        x.dress(2, 0);
        x.dress(2, 0);
        DUE.due("about(3)", x.about(3), 2);
        DUE.due("about(4)", x.about(4), 4);
        x.choose(0, 1);
        DUE.due("about(5)", x.about(5), 1);
        DUE.due("about(6)", x.about(6), FAIR.length());
        // Rider 2 is worth 12 to horse 0, less than 14; it has no horse: 2 and horse 1.
        DUE.due("about(7) with two kept", x.about(7), 1);
        DUE.due("about(8)", x.about(8), -2);
        DUE.due("about(-1)", x.about(-1), -2);
    }

    private static void horses() {
        HorsesChoose x = Due.fairOf(FAIR);
        int[][] want = {{2, 200, 5, 3, 10, 0}, {1, 11, 7, 2, 4, 0}};
        for (int h = 0; h < 2; h++) {
            for (int what = 0; what < 6; what++) {
                DUE.due("horse(" + h + ", " + what + ")", x.horse(h, what), want[h][what]);
            }
        }
        x.lead(3, 0);
        x.lead(1, 0);
        x.lead(2, 1);
        DUE.due("horse(0, 5)", x.horse(0, 5), 10);
        DUE.due("horse(1, 5)", x.horse(1, 5), 4);
        DUE.due("horse(0, 6)", x.horse(0, 6), -2);
        DUE.due("horse(0, -1)", x.horse(0, -1), -2);
        DUE.due("horse(2, 0)", x.horse(2, 0), -1);
        DUE.due("horse(-1, 0)", x.horse(-1, 0), -1);
        DUE.due("horse(2, 6)", x.horse(2, 6), -1);
        Due.tell(x, "FH31239881");
        int[] most = {3, 123, 9, 8, 81};
        for (int what = 0; what < 5; what++) {
            DUE.due("horse(0, " + what + ") of the next fair", x.horse(0, what), most[what]);
        }
    }

    private static void riders() {
        HorsesChoose x = Due.fairOf(FAIR);
        int[][] want = {{512, 512, 0, -9, 1}, {900, 900, 1, -9, 1}, {445, 445, 2, -9, 0}, {723, 723, 3, -9, 0}};
        for (int r = 0; r < 4; r++) {
            for (int what = 0; what < 5; what++) {
                DUE.due("rider(" + r + ", " + what + ")", x.rider(r, what), want[r][what]);
            }
        }
        x.dress(0, 1);
        x.dress(0, 2);
        x.dress(0, 2);
        DUE.due("rider(0, 0) dressed", x.rider(0, 0), 512);
        DUE.due("rider(0, 1) dressed", x.rider(0, 1), 524);
        x.lead(0, 1);
        x.lead(1, 0);
        DUE.due("rider(0, 3)", x.rider(0, 3), 1);
        DUE.due("rider(1, 3)", x.rider(1, 3), 0);
        DUE.due("rider(0, 5)", x.rider(0, 5), -2);
        DUE.due("rider(0, -1)", x.rider(0, -1), -2);
        DUE.due("rider(4, 0)", x.rider(4, 0), -1);
        DUE.due("rider(-1, 5)", x.rider(-1, 5), -1);
        Due.tell(x, "FR0070");
        DUE.due("rider(0, 0) of 007", x.rider(0, 0), 7);
        DUE.due("rider(0, 4) without horses", x.rider(0, 4), -9);
    }

    private static void tastes() {
        // Speeds 4, 6, 6, 4 and ages 5, 5, 7, 7: of like ones the lesser horse.
        HorsesChoose x = Due.fairOf("FH10004500H10006500H10006700H10004700R0000R0001R0002R0003");
        int[] want = {1, 0, 2, 0};
        for (int r = 0; r < 4; r++) {
            DUE.due("rider(" + r + ", 4) by taste", x.rider(r, 4), want[r]);
        }
    }

    private static void worths() {
        HorsesChoose x = Due.fairOf(FAIR);
        int[][] want = {{10, 18, 8, 14}, {3, 0, 9, 5}};
        for (int h = 0; h < 2; h++) {
            for (int r = 0; r < 4; r++) {
                DUE.due("worth(" + h + ", " + r + ")", x.worth(h, r), want[h][r]);
            }
        }
        x.dress(0, 0);
        x.dress(0, 2);
        DUE.due("worth(0, 0) dressed", x.worth(0, 0), 12);
        DUE.due("worth(1, 0) dressed", x.worth(1, 0), 4);
        DUE.due("worth(2, 0)", x.worth(2, 0), -1);
        DUE.due("worth(-1, 0)", x.worth(-1, 0), -1);
        DUE.due("worth(0, 4)", x.worth(0, 4), -1);
        DUE.due("worth(0, -1)", x.worth(0, -1), -1);
        Due.tell(x, "FH13330000H11230000R9990R1230");
        DUE.due("worth(0, 0) of the most", x.worth(0, 0), 81);
        DUE.due("worth(1, 1) by each trait", x.worth(1, 1), 14);
    }
}
