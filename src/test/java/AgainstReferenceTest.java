import java.util.Random;

/** Many runs of calls, drawn by fixed seeds, on the program and on the reference. */
public final class AgainstReferenceTest {
    private static final int RUNS = 3200;
    /** What later calls of one object answer is free. */
    private static final int CALLS = 512;
    private static final int[] FAR = {Integer.MIN_VALUE, Integer.MAX_VALUE, -2, 64, 1 << 16};

    private final Random random;
    private final HorsesChoose program = new HorsesChoose();
    private final Reference reference = new Reference();
    private final StringBuilder told = new StringBuilder();
    private long got;
    private long want;
    private int horses = 0;
    private int riders = 0;
    private int calls = 0;

    private AgainstReferenceTest(long seed) {
        random = new Random(seed);
    }

    public static void main(String[] args) {
        Due due = new Due();
        for (int run = 0; run < RUNS; run++) {
            new AgainstReferenceTest(run).go(due, run);
        }
        due.end();
    }

    private void go(Due due, int run) {
        tellFair();
        // A step takes as many calls as to wipe, to write 76 bytes, to make the fair and to ask, at most.
        while (calls + 79 <= CALLS) {
            calls++;
            String name = step();
            due.due("run " + run + ", call " + calls + ": " + name, got, want);
        }
    }

    private int below(int n) {
        return random.nextInt(n);
    }

    private boolean rarely() {
        return below(40) == 0;
    }

    private char figure(int most) {
        return (char) ('0' + below(most + 1));
    }

    private String horsePart(int most) {
        String least = below(3) == 0 ? "00" : String.format("%02d", below(below(2) == 0 ? 82 : 30));
        return "H" + (char) ('1' + below(3)) + figure(3) + figure(3) + figure(3) + figure(most) + figure(most) + least;
    }

    private String riderPart(int most) {
        return "R" + figure(most) + figure(most) + figure(most) + figure(3);
    }

    private String fairText() {
        int most = below(2) == 0 ? 9 : 1 + below(4);
        StringBuilder text = new StringBuilder("F");
        int horsesLeft = rarely() ? below(6) : 1 + below(4);
        int ridersLeft = rarely() ? below(7) : 1 + below(5);
        while (horsesLeft + ridersLeft > 0) {
            if (below(horsesLeft + ridersLeft) < horsesLeft) {
                text.append(horsePart(most));
                horsesLeft--;
            } else {
                text.append(riderPart(most));
                ridersLeft--;
            }
        }
        return text.toString();
    }

    private void writeAnew(String text) {
        calls += 1 + text.length();
        program.wipe();
        reference.wipe();
        Due.write(program, text);
        for (int i = 0; i < text.length(); i++) {
            reference.write(text.charAt(i));
        }
    }

    private void tellFair() {
        writeAnew(fairText());
        calls++;
        program.fair();
        reference.fair();
        horses = (int) reference.about(0);
        riders = (int) reference.about(1);
    }

    private String call(String name, long answer, long due) {
        got = answer;
        want = due;
        return name;
    }

    private int outside(int some) {
        return below(3) == 0 ? FAR[below(FAR.length)] : below(some) - 1;
    }

    private int someHorse() {
        return rarely() || horses == 0 ? outside(7) : below(horses);
    }

    private int someRider() {
        return rarely() || riders == 0 ? outside(8) : below(riders);
    }

    private int some(int least, int most) {
        if (rarely()) {
            return below(3) == 0 ? FAR[below(FAR.length)] : below(2) == 0 ? least - 1 : most + 1;
        }
        return least + below(most - least + 1);
    }

    private String step() {
        switch (below(10)) {
            case 0: return stepOfText();
            case 1: case 2: case 3: case 4: return stepOfActs();
            case 5: return stepOfFair();
            case 6: case 7: return stepOfHolding();
            case 8: return stepOfLearning();
            default: return stepOfChance();
        }
    }

    private String stepOfText() {
        switch (below(12)) {
            case 0: {
                int letter = below(10) == 0 ? below(300) - 20 : "FHR0123456789".charAt(below(13));
                return call("write(" + letter + ")", program.write(letter), reference.write(letter));
            }
            case 1: return call("wipe()", program.wipe(), reference.wipe());
            case 2: case 3: case 4: return faultOfBentText();
            case 5: {
                tellFair();
                return call("fair()", program.fair(), reference.fair());
            }
            case 6: {
                String name = call("fair()", program.fair(), reference.fair());
                horses = (int) reference.about(0);
                riders = (int) reference.about(1);
                return name;
            }
            default: return call("fault()", program.fault(), reference.fault());
        }
    }

    private String faultOfBentText() {
        StringBuilder text = new StringBuilder(fairText());
        if (below(2) == 0) {
            text.setLength(below(text.length() + 1));
        }
        if (text.length() > 0 && below(3) > 0) {
            text.setCharAt(below(text.length()), "FHR0123456789: /".charAt(below(16)));
        }
        writeAnew(text.toString());
        return call("fault() of " + text, program.fault(), reference.fault());
    }

    private String stepOfActs() {
        int r = someRider();
        int h = someHorse();
        int t = some(0, 2);
        int slot = some(0, 1);
        switch (below(20)) {
            case 0: return call("bell()", program.bell(), reference.bell());
            case 1: case 2: return call("undo()", program.undo(), reference.undo());
            case 3: return call("keep(" + slot + ")", program.keep(slot), reference.keep(slot));
            case 4: return call("again(" + slot + ")", program.again(slot), reference.again(slot));
            case 5: case 6: return call("giveBack(" + r + ")", program.giveBack(r), reference.giveBack(r));
            case 7: case 8: case 9: case 10: case 11:
                return call("dress(" + r + ", " + t + ")", program.dress(r, t), reference.dress(r, t));
            default: return call("lead(" + r + ", " + h + ")", program.lead(r, h), reference.lead(r, h));
        }
    }

    private String stepOfFair() {
        int r = someRider();
        int h = someHorse();
        switch (below(4)) {
            case 0: {
                int what = some(0, 7);
                return call("about(" + what + ")", program.about(what), reference.about(what));
            }
            case 1: {
                int what = some(0, 5);
                return call("horse(" + h + ", " + what + ")", program.horse(h, what), reference.horse(h, what));
            }
            case 2: {
                int what = some(0, 4);
                return call("rider(" + r + ", " + what + ")", program.rider(r, what), reference.rider(r, what));
            }
            default: return call("worth(" + h + ", " + r + ")", program.worth(h, r), reference.worth(h, r));
        }
    }

    private String stepOfHolding() {
        int r = someRider();
        int h = someHorse();
        switch (below(20)) {
            case 0: return call("holds()", program.holds(), reference.holds());
            case 1: return call("sure(" + r + ")", program.sure(r), reference.sure(r));
            case 2: return call("race()", program.race(), reference.race());
            case 3: return call("raceOf(" + r + ")", program.raceOf(r), reference.raceOf(r));
            case 4: {
                int what = some(0, 1);
                return call("forged(" + r + ", " + h + ", " + what + ")",
                        program.forged(r, h, what), reference.forged(r, h, what));
            }
            case 5: case 6: case 7: return call("left()", program.left(), reference.left());
            case 8: case 9: case 10: case 11: case 12: case 13: {
                boolean byHorses = random.nextBoolean();
                return call("held(" + r + ", " + byHorses + ")",
                        program.held(r, byHorses), reference.held(r, byHorses));
            }
            default: return call("bolts(" + r + ", " + h + ")", program.bolts(r, h), reference.bolts(r, h));
        }
    }

    private String stepOfLearning() {
        int i = someRider();
        int j = someRider();
        int h = someHorse();
        int what = some(0, 1);
        switch (below(8)) {
            case 0: case 1: return call("choose(" + i + ", " + j + ")", program.choose(i, j), reference.choose(i, j));
            case 2: return call("learnt(" + what + ")", program.learnt(what), reference.learnt(what));
            case 3: return call("next()", program.next(), reference.next());
            case 4: case 5: return call("oats(" + h + ", " + i + ", " + j + ", " + what + ")",
                    program.oats(h, i, j, what), reference.oats(h, i, j, what));
            case 6: {
                int t = some(0, 2);
                int v = below(4) == 0 ? some(0, 27) : some(0, 9);
                return call("saddles(" + h + ", " + t + ", " + v + ", " + what + ")",
                        program.saddles(h, t, v, what), reference.saddles(h, t, v, what));
            }
            default:
                return below(3) > 0 ? call("about(5)", program.about(5), reference.about(5))
                        : call("unchoose()", program.unchoose(), reference.unchoose());
        }
    }

    private String stepOfChance() {
        int r = someRider();
        int h = someHorse();
        switch (below(4)) {
            case 0: {
                int x = some(0, 10);
                boolean upper = random.nextBoolean();
                return call("chance(" + r + ", " + h + ", " + x + ", " + upper + ")",
                        program.chance(r, h, x, upper), reference.chance(r, h, x, upper));
            }
            case 1: {
                long v = below(2) == 0 ? random.nextLong() : below(20) - 10;
                return call("seed(" + v + ")", program.seed(v), reference.seed(v));
            }
            default: {
                int m = some(1, 40);
                return call("days(" + m + ")", program.days(m), reference.days(m));
            }
        }
    }
}
