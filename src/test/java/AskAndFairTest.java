/** Promises 19 and 20: ask, fair. */
public final class AskAndFairTest {
    private static final Check CHECK = new Check();
    private static final int NONE = OverAndBack.NONE;
    private static final int BAD = OverAndBack.BAD;

    public static void main(String[] args) {
        asking();
        twoHolders();
        severalWays();
        manyWays();
        oneStation();
        noWatchers();
        wrongNumbers();
        CHECK.end();
    }

    private static void ask(OverAndBack x, int knows, int set, int due) {
        CHECK.due("ask " + knows + " " + set, x.ask(knows, set), due);
    }

    private static void asking() {
        OverAndBack x = CHECK.laid("s1;f0,1,2;f3,3,2;f2,4,5;");
        ask(x, 0, 0, 0);
        ask(x, 255, 255, 0);
        ask(x, 0, 4, 4);
        ask(x, 1, 4, 2);
        ask(x, 3, 4, 0);
        ask(x, 0, 32, 32);
        ask(x, 0, 52, 20);
        ask(x, 1, 52, 18);
        ask(x, 8, 52, 16);
        ask(x, 0, 64, 64);
        ask(x, 0, 12, 8);
        ask(x, 0, 255, 219);
        OverAndBack lowest = CHECK.laid("s1;f0,0,5;f1,1,5;");
        ask(lowest, 0, 32, 1);
        ask(lowest, 2, 32, 0);
        ask(CHECK.laid("s1;"), 5, 255, 250);
    }

    private static void fair(OverAndBack x, int what, int... due) {
        for (int k = 0; k < due.length; k++) {
            CHECK.due("fair " + k + " " + what, x.fair(k, what), due[k]);
        }
    }

    private static void twoHolders() {
        OverAndBack x = CHECK.laid("n25;s2;s3;g2;w0,0;w0,1;");
        fair(x, 0, 26, BAD);
        fair(x, 1, 1, 0, 0, BAD);
        fair(x, 2, 26, 30, BAD);
        OverAndBack none = CHECK.laid("n10;s2;s3;w3,0;w1,1;");
        fair(none, 0, 0, BAD);
        fair(none, 1, 0, BAD);
        fair(none, 2, 20, 0, BAD);
        OverAndBack shorter = CHECK.laid("n12;s2;s3;g3;w0,0;w0,1;");
        fair(shorter, 0, 0, BAD);
        fair(shorter, 1, 0, 0, BAD);
        fair(shorter, 2, 24, 0, BAD);
    }

    private static void severalWays() {
        OverAndBack x = CHECK.laid("n20;s2;s2;g0;w0,1;w0,0;");
        fair(x, 0, 20, BAD);
        fair(x, 1, 0, 1, BAD);
        fair(x, 2, 20, 20, BAD);
        OverAndBack y = CHECK.laid("n30;s5;s5;g1;w0,0;w1,0;w2,1;b0,0,9;b1,20,29;u0,0,59,10;");
        fair(y, 0, 50, BAD);
        fair(y, 1, 2, 0, 0, BAD);
        fair(y, 2, 95, 95, 50, BAD);
    }

    /** Four watchers and six turns: 4096 ways, the best one among the last. */
    private static void manyWays() {
        OverAndBack x = CHECK.laid("n60;s0;s0;s0;s0;g0;m3,0,9,1,8;m2,10,19,1,8;m1,20,29,1,8;m0,30,39,1,8;w0,0;w0,1;w0,2;w0,3;");
        fair(x, 0, 10, BAD);
        fair(x, 1, 3, 2, 1, 0, 0, 0, BAD);
        fair(x, 2, 10, 10, 10, 10, BAD);
        OverAndBack y = CHECK.laid("n60;s0;s0;g3;m1,0,9,1,8;m1,20,29,1,8;m0,10,19,2,8;m0,50,59,1,8;w0,0;w0,1;");
        fair(y, 0, 17, BAD);
        fair(y, 1, 1, 0, 1, 0, 0, 0, BAD);
        fair(y, 2, 24, 17, BAD);
    }

    private static void oneStation() {
        OverAndBack x = CHECK.laid("n60;s9;g3;w0,0;w1,0;w2,0;w3,0;");
        fair(x, 0, 540, BAD);
        fair(x, 1, 0, 0, 0, 0, 0, 0, BAD);
        fair(x, 2, 540, 540, 540, 540, BAD);
        x.wipe();
        Check.write(x, "n11;s1;s2;w0,1;");
        x.lay();
        fair(x, 0, 22, BAD);
        fair(x, 1, 0, 0, BAD);
        fair(x, 2, 22, BAD);
    }

    private static void noWatchers() {
        OverAndBack x = CHECK.laid("n21;s9;");
        fair(x, 0, NONE, BAD);
        fair(x, 1, NONE, NONE, NONE, BAD);
        fair(x, 2, NONE, BAD);
    }

    private static void wrongNumbers() {
        OverAndBack x = new OverAndBack();
        ask(x, -1, 0, BAD);
        ask(x, 256, 0, BAD);
        ask(x, 0, -1, BAD);
        ask(x, 0, 256, BAD);
        for (int what = -1; what <= 3; what++) {
            CHECK.due("fair -1 " + what, x.fair(-1, what), BAD);
            CHECK.due("fair 9 " + what, x.fair(9, what), BAD);
        }
        CHECK.due("fair what -1", x.fair(0, -1), BAD);
        CHECK.due("fair what 3", x.fair(0, 3), BAD);
    }
}
