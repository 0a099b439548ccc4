import java.util.ArrayList;
import java.util.List;
import java.util.function.ToLongFunction;

/**
 * "What is refused changes nothing", "of several what is told first", and "in what follows nothing is changed":
 * each call is made on an object whose twin does without it; all that is seen of both then must be the same.
 */
public final class RefusalsTest {
    private static final Due DUE = new Due();
    private static final int UNKNOWN = -1, BAD = -2, LATE = -3, FULL = -4;
    private static final int[] FAR = {-1, Integer.MIN_VALUE, Integer.MAX_VALUE};

    private final Scene scene;
    private final String untouched;

    private RefusalsTest(Scene scene) {
        this.scene = scene;
        untouched = Scene.seenOf(scene.make());
    }

    public static void main(String[] args) {
        for (Scene scene : Scene.all()) {
            RefusalsTest test = new RefusalsTest(scene);
            test.unknownHorses();
            test.unknownRiders();
            test.unknownSlots();
            test.badWhats();
            test.badNumbers();
            test.questionsChangeNothing();
        }
        new RefusalsTest(Scene.all().get(0)).lateWhenNew();
        new RefusalsTest(Scene.busy()).lateWhenBusy();
        new RefusalsTest(Scene.full()).fullWhenFull();
        new RefusalsTest(Scene.full()).firstOfSeveral();
        whatDaysChange();
        DUE.end();
    }

    private void refused(String call, int want, ToLongFunction<HorsesChoose> made) {
        HorsesChoose x = scene.make();
        DUE.due(scene.name + ": " + call, made.applyAsLong(x), want);
        unchanged(call, x);
    }

    private void unchanged(String call, HorsesChoose x) {
        String seen = Scene.seenOf(x);
        DUE.due(scene.name + ": after " + call + " all is the same", seen.equals(untouched) ? 1 : 0, 1);
    }

    /** Numbers that are none of so many, the next one first. */
    private static List<Integer> outside(int most) {
        List<Integer> numbers = new ArrayList<>();
        numbers.add(most);
        for (int far : FAR) {
            numbers.add(far);
        }
        return numbers;
    }

    private void unknownHorses() {
        for (int h : outside(scene.horses)) {
            String of = "(horse " + h + ")";
            refused("horse" + of, UNKNOWN, x -> x.horse(h, 0));
            refused("worth" + of, UNKNOWN, x -> x.worth(h, 0));
            refused("lead" + of, UNKNOWN, x -> x.lead(1, h));
            refused("bolts" + of, UNKNOWN, x -> x.bolts(1, h));
            refused("forged" + of, UNKNOWN, x -> x.forged(1, h, 0));
            refused("oats" + of, UNKNOWN, x -> x.oats(h, 0, 1, 0));
            refused("saddles" + of, UNKNOWN, x -> x.saddles(h, 0, 0, 0));
            refused("chance" + of, UNKNOWN, x -> x.chance(1, h, 5, true));
        }
    }

    private void unknownRiders() {
        for (int r : outside(scene.riders)) {
            String of = "(rider " + r + ")";
            refused("rider" + of, UNKNOWN, x -> x.rider(r, 0));
            refused("worth" + of, UNKNOWN, x -> x.worth(0, r));
            refused("lead" + of, UNKNOWN, x -> x.lead(r, 0));
            refused("dress" + of, UNKNOWN, x -> x.dress(r, 0));
            refused("giveBack" + of, UNKNOWN, x -> x.giveBack(r));
            refused("bolts" + of, UNKNOWN, x -> x.bolts(r, 0));
            refused("held" + of, UNKNOWN, x -> x.held(r, false));
            refused("held by horses" + of, UNKNOWN, x -> x.held(r, true));
            refused("sure" + of, UNKNOWN, x -> x.sure(r));
            refused("forged" + of, UNKNOWN, x -> x.forged(r, 0, 1));
            refused("raceOf" + of, UNKNOWN, x -> x.raceOf(r));
            refused("choose i" + of, UNKNOWN, x -> x.choose(r, 0));
            refused("choose j" + of, UNKNOWN, x -> x.choose(0, r));
            refused("oats i" + of, UNKNOWN, x -> x.oats(0, r, 0, 0));
            refused("oats j" + of, UNKNOWN, x -> x.oats(0, 0, r, 1));
            refused("chance" + of, UNKNOWN, x -> x.chance(r, 0, 5, false));
        }
    }

    private void unknownSlots() {
        for (int slot : outside(2)) {
            refused("keep(" + slot + ")", UNKNOWN, x -> x.keep(slot));
            refused("again(" + slot + ")", UNKNOWN, x -> x.again(slot));
        }
    }

    private void badWhats() {
        for (int what : outside(8)) {
            refused("about(" + what + ")", BAD, x -> x.about(what));
        }
        for (int what : outside(2)) {
            refused("learnt(" + what + ")", BAD, x -> x.learnt(what));
        }
        if (scene.horses > 0) {
            outside(6).forEach(what -> refused("horse(0, " + what + ")", BAD, x -> x.horse(0, what)));
            outside(2).forEach(what -> refused("saddles(.. " + what + ")", BAD, x -> x.saddles(0, 0, 0, what)));
        }
        if (scene.riders > 0) {
            outside(5).forEach(what -> refused("rider(0, " + what + ")", BAD, x -> x.rider(0, what)));
        }
        if (scene.riders > 1 && scene.horses > 0) {
            outside(2).forEach(what -> refused("forged(.. " + what + ")", BAD, x -> x.forged(0, 0, what)));
            outside(2).forEach(what -> refused("oats(.. " + what + ")", BAD, x -> x.oats(0, 0, 1, what)));
        }
    }

    private void badNumbers() {
        outside(256).forEach(letter -> refused("write(" + letter + ")", BAD, x -> x.write(letter)));
        outside(41).forEach(m -> refused("days(" + m + ")", BAD, x -> x.days(m)));
        refused("days(0)", BAD, x -> x.days(0));
        for (int r = 0; r < scene.riders; r++) {
            int one = r;
            refused("choose(one)", BAD, x -> x.choose(one, one));
            outside(3).forEach(trait -> refused("dress(.. " + trait + ")", BAD, x -> x.dress(one, trait)));
        }
        if (scene.horses > 0) {
            outside(3).forEach(trait -> refused("saddles(trait " + trait + ")", BAD, x -> x.saddles(0, trait, 0, 0)));
            outside(28).forEach(v -> refused("saddles(v " + v + ")", BAD, x -> x.saddles(0, 0, v, 1)));
        }
        if (scene.horses > 0 && scene.riders > 0) {
            outside(11).forEach(tenths -> refused("chance(x " + tenths + ")", BAD, x -> x.chance(0, 0, tenths, true)));
            refused("oats(one)", BAD, x -> x.oats(0, 1, 1, 0));
        }
    }

    private void lateWhenNew() {
        refused("fair()", LATE, HorsesChoose::fair);
        refused("undo()", LATE, HorsesChoose::undo);
        refused("again(0)", LATE, x -> x.again(0));
        refused("again(1)", LATE, x -> x.again(1));
    }

    private void lateWhenBusy() {
        refused("fair() of a text with a fault", LATE, HorsesChoose::fair);
        refused("lead() of one taken, to its own", LATE, x -> x.lead(0, 0));
        refused("lead() of one taken, to another", LATE, x -> x.lead(0, 1));
        refused("giveBack() of one given back", LATE, x -> x.giveBack(1));
        refused("giveBack() of one never led", LATE, x -> x.giveBack(3));
        refused("again() of the slot that is empty", LATE, x -> x.again(1));
        refused("dress() of what shows 9 by truth", FULL, x -> x.dress(1, 0));
    }

    private void fullWhenFull() {
        refused("write(0) to 64", FULL, x -> x.write(0));
        refused("write(255) to 64", FULL, x -> x.write(255));
        refused("dress() of what shows 9 by oats", FULL, x -> x.dress(4, 2));
        refused("choose() to 6", FULL, x -> x.choose(0, 4));
        refused("choose() of one of the 6", FULL, x -> x.choose(1, 3));
        refused("fair() of a text with a fault", LATE, HorsesChoose::fair);
        refused("lead() of one taken", LATE, x -> x.lead(4, 3));
        refused("giveBack() of one not taken", LATE, x -> x.giveBack(1));
    }

    /** On the full scene, where rider 0 is taken, rider 4 shows 9 and six choices are made. */
    private void firstOfSeveral() {
        refused("write(256) to 64: BAD before FULL", BAD, x -> x.write(256));
        refused("horse(4, 6): UNKNOWN before BAD", UNKNOWN, x -> x.horse(4, 6));
        refused("rider(5, 5): UNKNOWN before BAD", UNKNOWN, x -> x.rider(5, 5));
        refused("lead(0, 4): UNKNOWN before LATE", UNKNOWN, x -> x.lead(0, 4));
        refused("dress(5, 3): UNKNOWN before BAD", UNKNOWN, x -> x.dress(5, 3));
        refused("dress(4, 3): BAD of one that shows 9", BAD, x -> x.dress(4, 3));
        refused("forged(5, 0, 2): UNKNOWN before BAD", UNKNOWN, x -> x.forged(5, 0, 2));
        refused("forged(0, 4, 2): UNKNOWN before BAD", UNKNOWN, x -> x.forged(0, 4, 2));
        refused("choose(5, 5): UNKNOWN before BAD", UNKNOWN, x -> x.choose(5, 5));
        refused("choose(0, 5) to 6: UNKNOWN before FULL", UNKNOWN, x -> x.choose(0, 5));
        refused("choose(0, 0) to 6: BAD before FULL", BAD, x -> x.choose(0, 0));
        refused("oats(4, 0, 0, 0): UNKNOWN before BAD", UNKNOWN, x -> x.oats(4, 0, 0, 0));
        refused("oats(0, 5, 5, 2): UNKNOWN before BAD", UNKNOWN, x -> x.oats(0, 5, 5, 2));
        refused("oats(0, 0, 5, 2): UNKNOWN before BAD", UNKNOWN, x -> x.oats(0, 0, 5, 2));
        refused("oats(0, 0, 0, 2): BAD", BAD, x -> x.oats(0, 0, 0, 2));
        refused("saddles(4, 3, 28, 2): UNKNOWN before BAD", UNKNOWN, x -> x.saddles(4, 3, 28, 2));
        refused("chance(5, 0, 11, true): UNKNOWN before BAD", UNKNOWN, x -> x.chance(5, 0, 11, true));
        refused("chance(0, 4, 11, true): UNKNOWN before BAD", UNKNOWN, x -> x.chance(0, 4, 11, true));
    }

    private void asked(String call, ToLongFunction<HorsesChoose> made) {
        HorsesChoose x = scene.make();
        long first = made.applyAsLong(x);
        DUE.due(scene.name + ": " + call + " again", made.applyAsLong(x), first);
        unchanged(call, x);
    }

    private void questionsChangeNothing() {
        asked("fault()", HorsesChoose::fault);
        asked("holds()", HorsesChoose::holds);
        asked("left()", HorsesChoose::left);
        asked("race()", HorsesChoose::race);
        asked("next()", HorsesChoose::next);
        for (int i = 0; i < 8; i++) {
            int what = i;
            asked("about(" + what + ")", x -> x.about(what));
            asked("learnt(" + what % 2 + ")", x -> x.learnt(what % 2));
        }
        for (int i = 0; i < scene.riders; i++) {
            int r = i;
            asked("rider()", x -> x.rider(r, r % 5));
            asked("held(.., false)", x -> x.held(r, false));
            asked("held(.., true)", x -> x.held(r, true));
            asked("sure()", x -> x.sure(r));
            asked("raceOf()", x -> x.raceOf(r));
            for (int j = 0; j < scene.horses; j++) {
                int h = j;
                int other = (r + 1) % scene.riders;
                asked("horse()", x -> x.horse(h, 5));
                asked("worth()", x -> x.worth(h, r));
                asked("bolts()", x -> x.bolts(r, h));
                asked("forged(.., 0)", x -> x.forged(r, h, 0));
                asked("forged(.., 1)", x -> x.forged(r, h, 1));
                asked("oats()", x -> x.oats(h, r, other, 0));
                asked("saddles()", x -> x.saddles(h, r % 3, 9, 1));
                asked("chance()", x -> x.chance(r, h, 7, false));
            }
        }
    }

    /** "Nothing changes but THE SEED": the twin is given the seed that the days left. */
    private static void whatDaysChange() {
        for (Scene scene : Scene.all()) {
            HorsesChoose x = scene.make();
            x.days(40);
            long left = x.seed(0);
            x.seed(left);
            HorsesChoose twin = scene.make();
            long before = twin.seed(left);
            boolean drawn = scene.horses > 0 && scene.riders > 0;
            DUE.due(scene.name + ": days(40) draw", left != before ? 1 : 0, drawn ? 1 : 0);
            DUE.due(scene.name + ": days(40) change no more",
                    Scene.seenOf(x).equals(Scene.seenOf(twin)) ? 1 : 0, 1);
        }
    }
}
