import java.util.ArrayList;
import java.util.List;
import java.util.function.Consumer;

/** A told state of an object, made anew as often as a test wants it, and all that can be seen of it. */
final class Scene {
    static final String MOST = "FH11009500H21115020H31035020H10135981R9900R1230R5921R1991R0573";

    final String name;
    final int horses;
    final int riders;
    private final String text;
    private final Consumer<HorsesChoose> calls;

    private Scene(String name, int horses, int riders, String text, Consumer<HorsesChoose> calls) {
        this.name = name;
        this.horses = horses;
        this.riders = riders;
        this.text = text;
        this.calls = calls;
    }

    HorsesChoose make() {
        HorsesChoose x = new HorsesChoose();
        if (!text.isEmpty()) {
            Due.tell(x, text);
        }
        calls.accept(x);
        return x;
    }

    static List<Scene> all() {
        List<Scene> scenes = new ArrayList<>();
        scenes.add(new Scene("new", 0, 0, "", x -> { }));
        scenes.add(new Scene("horses alone", 2, 0, "FH10000000H20101081", x -> x.bell()));
        scenes.add(new Scene("riders alone", 0, 2, "FR0000R9873", x -> x.dress(0, 2)));
        scenes.add(busy());
        scenes.add(full());
        return scenes;
    }

    /** Rider 0 has horse 0, rider 1 had it, rider 2 has horse 1 and is dressed; slot 1 is empty. */
    static Scene busy() {
        return new Scene("busy", 2, 4, FairTest.FAIR, x -> {
            x.write('x');
            x.lead(1, 0);
            x.lead(0, 0);
            x.keep(0);
            x.dress(2, 2);
            x.lead(2, 1);
            x.giveBack(1);
            x.choose(1, 0);
            x.choose(2, 3);
            x.seed(77);
        });
    }

    /** All that can be full is full: bytes, acts (five are forgotten), choices, slots; rider 4 shows 9 of trait 2. */
    static Scene full() {
        return new Scene("full", 4, 5, MOST, x -> {
            x.write('H');
            x.write('R');
            x.lead(0, 0);
            x.dress(3, 0);
            x.dress(3, 0);
            x.keep(1);
            for (int i = 0; i < 6; i++) {
                x.dress(1, 1);
                x.choose(i % 2 == 0 ? 1 : 2, 3);
            }
            x.dress(4, 2);
            x.dress(4, 2);
            x.dress(0, 2);
            x.bell();
            x.dress(4, 2);
            x.dress(4, 2);
            x.dress(3, 0);
            x.lead(2, 1);
            x.lead(3, 1);
            x.lead(4, 2);
            x.keep(0);
            x.seed(Long.MIN_VALUE);
        });
    }

    /** All that is seen of an object, to the last act undone; the object is spent by it. */
    static String seenOf(HorsesChoose x) {
        StringBuilder seen = new StringBuilder();
        int horses = x.about(0);
        int riders = x.about(1);
        for (int what = 0; what <= 7; what++) {
            seen.append(x.about(what)).append(' ');
        }
        seen.append("fault ").append(x.fault());
        for (int h = 0; h < horses; h++) {
            horseSeen(x, h, riders, seen);
        }
        for (int r = 0; r < riders; r++) {
            seen.append("\nrider ").append(r).append(": ").append(x.rider(r, 0)).append(' ').append(x.rider(r, 2))
                    .append(' ').append(x.rider(r, 4)).append(' ').append(x.held(r, false)).append(' ')
                    .append(x.held(r, true)).append(' ').append(x.sure(r)).append(' ').append(x.raceOf(r));
        }
        seen.append("\nfair: ").append(x.holds()).append(' ').append(x.left()).append(' ').append(x.race())
                .append(' ').append(x.learnt(0)).append(' ').append(x.learnt(1)).append(' ').append(x.next());
        seen.append(standing(x, riders));
        for (int slot = 0; slot < 2; slot++) {
            seen.append("\nkept: ").append(keptIn(x, slot, riders));
        }
        return seen.append("\nrest: ").append(x.seed(0)).append(' ').append(x.unchoose()).append(' ')
                .append(x.wipe()).toString();
    }

    private static void horseSeen(HorsesChoose x, int h, int riders, StringBuilder seen) {
        seen.append("\nhorse ").append(h).append(':');
        for (int what = 0; what <= 5; what++) {
            seen.append(' ').append(x.horse(h, what));
        }
        for (int r = 0; r < riders; r++) {
            seen.append(' ').append(x.worth(h, r)).append(x.bolts(r, h) == 1 ? "!" : "");
        }
    }

    private static String standing(HorsesChoose x, int riders) {
        StringBuilder seen = new StringBuilder();
        for (int left = x.about(4); left >= 0; left--) {
            seen.append('\n').append(left).append(" acts:").append(standingNow(x, riders));
            seen.append(" undone ").append(x.undo());
        }
        return seen.toString();
    }

    private static String standingNow(HorsesChoose x, int riders) {
        StringBuilder seen = new StringBuilder(" oats ").append(x.about(3));
        for (int r = 0; r < riders; r++) {
            seen.append(' ').append(x.rider(r, 1)).append(" on ").append(x.rider(r, 3));
        }
        return seen.toString();
    }

    private static String keptIn(HorsesChoose x, int slot, int riders) {
        return x.again(slot) + standingNow(x, riders) + " acts " + x.about(4);
    }
}
