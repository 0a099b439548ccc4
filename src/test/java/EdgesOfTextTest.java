/** The edges that the document names for the text, its fault and the fair: promises 1 to 5. */
public final class EdgesOfTextTest {
    private static final Due DUE = new Due();
    private static final String HORSE = "H10000000";
    private static final String RIDER = "R0000";

    public static void main(String[] args) {
        nothingAtFirst();
        everyByteAtEveryPlace();
        everyLeastWorth();
        firstOfTwoFaults();
        notAtItsEnd();
        fourHorsesFiveRiders();
        sixtyFourBytes();
        everyLetter();
        emptyText();
        smallestAndGreatestFairs();
        textAndFairAreTwo();
        whatAFairLeaves();
        everyFairAfterEveryOther();
        DUE.end();
    }

    private static int faultOf(String text) {
        HorsesChoose x = new HorsesChoose();
        Due.write(x, text);
        return x.fault();
    }

    private static void fault(String text, int want) {
        DUE.due("fault() of '" + text + "'", faultOf(text), want);
    }

    /** "No HORSES, no RIDERS." */
    private static void nothingAtFirst() {
        HorsesChoose x = new HorsesChoose();
        DUE.due("new: held(0, false)", x.held(0, false), -1);
        DUE.due("new: held(0, true)", x.held(0, true), -1);
        DUE.due("new: sure(0)", x.sure(0), -1);
        DUE.due("new: raceOf(0)", x.raceOf(0), -1);
        DUE.due("new: worth(0, 0)", x.worth(0, 0), -1);
        DUE.due("new: dress(0, 0)", x.dress(0, 0), -1);
        DUE.due("new: giveBack(0)", x.giveBack(0), -1);
        DUE.due("new: choose(0, 1)", x.choose(0, 1), -1);
        DUE.due("new: unchoose()", x.unchoose(), 0);
        DUE.due("new: learnt(0)", x.learnt(0), 64);
        DUE.due("new: learnt(1)", x.learnt(1), 0);
        DUE.due("new: next()", x.next(), -9);
        DUE.due("new: days(40)", x.days(40), 0);
        DUE.due("new: seed(0), nothing was drawn", x.seed(0), 0);
        DUE.due("new: wipe()", x.wipe(), 0);
        DUE.due("new: fair()", x.fair(), -3);
        DUE.due("new: bell()", x.bell(), 0);
        DUE.due("new: about(4), the bell is an act", x.about(4), 1);
        DUE.due("new: undo()", x.undo(), 0);
        DUE.due("new: undo() of nothing", x.undo(), -3);
    }

    /** What may stand at each place of a horse and a rider behind F, and what may come behind them. */
    private static void everyByteAtEveryPlace() {
        String good = "F" + HORSE + RIDER;
        String[] may = {"F", "HR", "123", "0123", "0123", "0123", "0123456789", "0123456789", "012345678",
            "0123456789", "HR", "0123456789", "0123456789", "0123456789", "0123", "HR"};
        for (int place = 0; place < may.length; place++) {
            for (int letter = 0; letter <= 255; letter++) {
                HorsesChoose x = new HorsesChoose();
                Due.write(x, good.substring(0, place));
                x.write(letter);
                boolean fits = may[place].indexOf(letter) >= 0;
                boolean ends = place == 0 || place == 9 || place == 14;
                int want = !fits ? place : ends ? -9 : place + 1;
                DUE.due("fault() with " + letter + " at " + place, x.fault(), want);
            }
        }
    }

    /** "mm (00 .. 81)": the first figure that leads beyond 81 is the fault, both by themselves. */
    private static void everyLeastWorth() {
        for (int least = 0; least <= 99; least++) {
            String text = "FH1000000" + least / 10 + least % 10;
            fault(text.substring(0, 9) + "\n", 9);
            String told = "FH100000" + least / 10 + least % 10;
            int want = least <= 81 ? -9 : least < 90 ? 9 : 8;
            fault(told, want);
            if (least <= 81) {
                HorsesChoose x = Due.fairOf(told);
                DUE.due("horse(0, 4) of '" + told + "'", x.horse(0, 4), least);
            }
        }
    }

    /** "The place of the first byte by which THE TEXT can be no FAIR, whatever came behind it." */
    private static void firstOfTwoFaults() {
        fault("xy", 0);
        fault("xF" + HORSE, 0);
        fault("FH4999", 2);
        fault("FH0", 2);
        fault("FH10000000x" + RIDER, 10);
        fault("FH1000009" + "0" + RIDER, 8);
        fault("FR000R0000", 5);
        fault("FR00004R0000", 6);
        fault("F" + RIDER + "H1000RR", 11);
        fault("F" + HORSE.repeat(5) + "x", 37);
        fault("F" + RIDER.repeat(6) + "x", 26);
        // An end that is missed, too, is told after the byte that cannot stand.
        fault("FH14", 3);
        fault("FR:", 2);
    }

    /** "Its length, if it is only not at its end." */
    private static void notAtItsEnd() {
        String most = "F" + HORSE.repeat(4) + RIDER.repeat(5);
        fault("", 0);
        for (int length = 1; length <= most.length(); length++) {
            boolean horseEnds = length <= 37 && (length - 1) % 9 == 0;
            boolean riderEnds = length >= 37 && (length - 37) % 5 == 0;
            fault(most.substring(0, length), horseEnds || riderEnds ? -9 : length);
        }
        String turned = "F" + RIDER.repeat(5) + HORSE.repeat(4);
        for (int length = 1; length <= turned.length(); length++) {
            boolean riderEnds = length <= 26 && (length - 1) % 5 == 0;
            boolean horseEnds = length >= 26 && (length - 26) % 9 == 0;
            fault(turned.substring(0, length), horseEnds || riderEnds ? -9 : length);
        }
    }

    /** "HORSES (4 at most), RIDERS (5 at most)": the fifth and the sixth fault at their first byte. */
    private static void fourHorsesFiveRiders() {
        for (int horses = 0; horses <= 4; horses++) {
            for (int riders = 0; riders <= 5; riders++) {
                String text = "F" + RIDER.repeat(riders) + HORSE.repeat(horses);
                int length = text.length();
                fault(text, -9);
                fault(text + "H", horses < 4 ? length + 1 : length);
                fault(text + "R", riders < 5 ? length + 1 : length);
                HorsesChoose x = new HorsesChoose();
                Due.write(x, text);
                DUE.due("fair() of '" + text + "'", x.fair(), 10 * horses + riders);
            }
        }
        // A kind that is full does not stop the other one.
        fault("F" + HORSE.repeat(4) + RIDER + "H", 42);
        fault("F" + RIDER.repeat(5) + HORSE + "R", 35);
        fault("F" + HORSE.repeat(4) + RIDER.repeat(4) + "R", 58);
    }

    /** "FULL: there are 64." */
    private static void sixtyFourBytes() {
        String most = "F" + HORSE.repeat(4) + RIDER.repeat(5);
        HorsesChoose x = new HorsesChoose();
        Due.write(x, most);
        DUE.due("fault() of 62 bytes", x.fault(), -9);
        DUE.due("write() of the 63rd", x.write('R'), 63);
        DUE.due("fault() of 63 bytes", x.fault(), 62);
        DUE.due("write() of the 64th", x.write('R'), 64);
        DUE.due("write() of the 65th", x.write('R'), -4);
        DUE.due("write() of the 66th", x.write(0), -4);
        DUE.due("fault() of 64 bytes", x.fault(), 62);
        DUE.due("about(6) of 64 bytes", x.about(6), 64);
        DUE.due("fair() of 64 bytes", x.fair(), -3);
        DUE.due("wipe() of 64 bytes", x.wipe(), 64);
        DUE.due("write() after it", x.write('F'), 1);
        DUE.due("fault() after it", x.fault(), -9);
        // "Its length set aside": the fault is told where it stands, however long the text is.
        fault("F".repeat(64), 1);
        fault("F" + HORSE.repeat(7), 37);
        fault("f" + "0".repeat(63), 0);
    }

    /** "A byte (0 .. 255)." */
    private static void everyLetter() {
        for (int from = 0; from < 256; from += 64) {
            HorsesChoose x = new HorsesChoose();
            for (int i = 0; i < 64; i++) {
                DUE.due("write(" + (from + i) + ")", x.write(from + i), i + 1);
            }
        }
        int[] bad = {-1, -256, 256, 257, 'F' + 256, 'F' - 256, Integer.MAX_VALUE, Integer.MIN_VALUE};
        HorsesChoose x = new HorsesChoose();
        for (int letter : bad) {
            DUE.due("write(" + letter + ")", x.write(letter), -2);
        }
        DUE.due("about(6) after them", x.about(6), 0);
    }

    /** "THE TEXT is empty: how long it was." */
    private static void emptyText() {
        HorsesChoose x = new HorsesChoose();
        DUE.due("wipe() of nothing", x.wipe(), 0);
        DUE.due("fault() of nothing", x.fault(), 0);
        Due.write(x, "FR0000");
        DUE.due("wipe()", x.wipe(), 6);
        DUE.due("wipe() of a wiped one", x.wipe(), 0);
        DUE.due("fault() of a wiped one", x.fault(), 0);
        // What stood there before is no part of a shorter text.
        Due.write(x, "FR");
        DUE.due("fault() of a shorter one", x.fault(), 2);
        DUE.due("about(6) of a shorter one", x.about(6), 2);
    }

    /** "PARTS, none or more"; "10 times HORSES, and RIDERS". */
    private static void smallestAndGreatestFairs() {
        String[] texts = {"F", "F" + HORSE, "F" + RIDER, "F" + HORSE.repeat(4), "F" + RIDER.repeat(5),
            "F" + HORSE.repeat(4) + RIDER.repeat(5)};
        int[] want = {0, 10, 1, 40, 5, 45};
        for (int i = 0; i < texts.length; i++) {
            HorsesChoose x = new HorsesChoose();
            Due.write(x, texts[i]);
            DUE.due("fair() of '" + texts[i] + "'", x.fair(), want[i]);
            DUE.due("about(0)", x.about(0), want[i] / 10);
            DUE.due("about(1)", x.about(1), want[i] % 10);
            DUE.due("fair() once more", x.fair(), want[i]);
        }
        // A smaller fair after the greatest: what is gone is unknown.
        HorsesChoose x = Due.fairOf(Scene.MOST);
        Due.tell(x, "F" + HORSE + RIDER);
        DUE.due("horse(1, 0) that is gone", x.horse(1, 0), -1);
        DUE.due("rider(1, 0) that is gone", x.rider(1, 0), -1);
        Due.tell(x, "F");
        DUE.due("horse(0, 0) that is gone", x.horse(0, 0), -1);
        DUE.due("rider(0, 0) that is gone", x.rider(0, 0), -1);
        DUE.due("about(7) of none", x.about(7), 0);
        // "Numbered as they are told, each kind for itself."
        Due.tell(x, "FR1110H20000000R2220H30000000R3330");
        DUE.due("horse(0, 0) of mixed parts", x.horse(0, 0), 2);
        DUE.due("horse(1, 0) of mixed parts", x.horse(1, 0), 3);
        DUE.due("rider(0, 0) of mixed parts", x.rider(0, 0), 111);
        DUE.due("rider(1, 0) of mixed parts", x.rider(1, 0), 222);
        DUE.due("rider(2, 0) of mixed parts", x.rider(2, 0), 333);
    }

    /** "THE TEXT is THE FAIR (THE TEXT itself stays)": what is written later is not the fair yet. */
    private static void textAndFairAreTwo() {
        HorsesChoose x = Due.fairOf("F" + RIDER);
        DUE.due("about(6): the text stays", x.about(6), 6);
        DUE.due("fault(): the text stays", x.fault(), -9);
        Due.write(x, RIDER);
        DUE.due("about(1) before fair()", x.about(1), 1);
        DUE.due("fair() of the longer text", x.fair(), 2);
        x.wipe();
        DUE.due("about(1) of a wiped text", x.about(1), 2);
        DUE.due("fair() of a wiped text", x.fair(), -3);
        DUE.due("about(1) after LATE", x.about(1), 2);
        x.write('F');
        DUE.due("fair() of none", x.fair(), 0);
        DUE.due("about(1) of none", x.about(1), 0);
    }

    /** "When THE FAIR is made anew": of the same text, too. */
    private static void whatAFairLeaves() {
        HorsesChoose x = Scene.busy().make();
        x.wipe();
        Due.write(x, FairTest.FAIR);
        DUE.due("fair() of the same text", x.fair(), 24);
        HorsesChoose twin = Due.fairOf(FairTest.FAIR);
        twin.choose(1, 0);
        twin.choose(2, 3);
        twin.seed(77);
        DUE.due("choices and the seed stay, no more",
                Scene.seenOf(x).equals(Scene.seenOf(twin)) ? 1 : 0, 1);
    }

    /** Nothing of a fair, nor of what was asked of it, is left in the next one. */
    private static void everyFairAfterEveryOther() {
        String[] fairs = {"F", "F" + HORSE.repeat(2), "F" + RIDER.repeat(3), FairTest.FAIR, Scene.MOST,
            "FH11009000H10101000R1900R9103", "FH11009000H10101000R9100R1903R0000", "FH20000081R9993R0123"};
        for (String before : fairs) {
            for (String after : fairs) {
                HorsesChoose x = Due.fairOf(before);
                x.dress(0, 1);
                x.lead(0, 0);
                x.lead(1, 1);
                x.keep(1);
                Scene.seenOf(x);
                Due.tell(x, after);
                boolean same = Scene.seenOf(x).equals(Scene.seenOf(Due.fairOf(after)));
                DUE.due("'" + after + "' after '" + before + "' is as on a new object", same ? 1 : 0, 1);
            }
        }
    }
}
