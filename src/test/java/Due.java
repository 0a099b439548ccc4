/** Counts the calls whose answer is not the one that is due, and tells them. */
final class Due {
    private int calls = 0;
    private int wrong = 0;

    void due(String call, long got, long want) {
        calls++;
        if (got != want) {
            wrong++;
            System.out.println(call + " answered " + got + ", due is " + want);
        }
    }

    void end() {
        System.out.println(wrong == 0 ? calls + " answers are as due" : wrong + " answers are not as due");
        if (wrong != 0 || calls == 0) {
            System.exit(1);
        }
    }

    static void write(HorsesChoose x, String text) {
        for (int i = 0; i < text.length(); i++) {
            x.write(text.charAt(i));
        }
    }

    static void tell(HorsesChoose x, String text) {
        x.wipe();
        write(x, text);
        x.fair();
    }

    static HorsesChoose fairOf(String text) {
        HorsesChoose x = new HorsesChoose();
        tell(x, text);
        return x;
    }
}
