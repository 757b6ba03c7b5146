/** Compares answers with those that are due, and ends the test by them. */
final class Check {
    private int wrong = 0;
    private int calls = 0;

    void due(String call, long got, long want) {
        calls++;
        if (got != want) {
            wrong++;
            if (wrong <= 40) {
                System.out.println(call + " answered " + got + ", due is " + want);
            }
        }
    }

    static void write(OverAndBack x, String text) {
        for (int p = 0; p < text.length(); p++) {
            x.write(text.charAt(p));
        }
    }

    /** A new object on which the text is laid. */
    OverAndBack laid(String text) {
        OverAndBack x = new OverAndBack();
        write(x, text);
        if (x.lay() < 0) {
            due("lay of " + text, x.lay(), 1);
        }
        return x;
    }

    void end() {
        System.out.println(calls + " answers looked at, " + wrong + " wrong");
        if (wrong != 0 || calls == 0) {
            System.exit(1);
        }
    }
}
