/** Promises 5 to 7: what is laid, minute, known. */
public final class EveningTest {
    private static final Check CHECK = new Check();
    private static final int NONE = OverAndBack.NONE;
    private static final int BAD = OverAndBack.BAD;

    public static void main(String[] args) {
        firstEvening();
        scenesAndBreaks();
        wrongNumbers();
        following();
        CHECK.end();
    }

    private static void row(OverAndBack x, int s, int what, int... due) {
        for (int t = 0; t < due.length; t++) {
            CHECK.due("minute " + s + " " + t + " " + what, x.minute(s, t, what), due[t]);
        }
    }

    private static void firstEvening() {
        OverAndBack x = new OverAndBack();
        row(x, 0, 0, 2, 2, 7, 7, 7, 0, 0, 2, 2, 2, 2, 2);
        row(x, 0, 1, NONE, NONE, 0, 0, 0, NONE, NONE, NONE, NONE, NONE, NONE, NONE);
        row(x, 0, 2, 0, 0, 0, 0, 0, 1, 1, 0, 0, 0, 0, 0);
        row(x, 1, 0, 3, 3, 3, 3, 3, 9, 3, 3, 0, 0, 3, 3, BAD);
        row(x, 1, 1, NONE, NONE, NONE, NONE, NONE, 1, NONE, NONE, NONE, NONE, NONE, NONE, BAD);
        row(x, 1, 2, 0, 0, 0, 0, 0, 0, 0, 0, 1, 1, 0, 0, BAD);
    }

    /** The last scene is it, though it tells nothing; a break hides it wherever it is told. */
    private static void scenesAndBreaks() {
        OverAndBack x = CHECK.laid("n10;s2;b0,5,7;m0,1,3,5,4;m0,3,5,8,8;s0;u1,0,9,10;m1,9,20,1,7;");
        row(x, 0, 0, 2, 5, 5, 8, 8, 0, 0, 0, 2, 2, BAD);
        row(x, 0, 1, NONE, 4, 4, NONE, NONE, NONE, NONE, NONE, NONE, NONE, BAD);
        row(x, 0, 2, 0, 0, 0, 0, 0, 1, 1, 1, 0, 0, BAD);
        row(x, 1, 0, 0, 0, 0, 0, 0, 0, 0, 0, 0, 1, BAD);
        row(x, 1, 1, NONE, NONE, NONE, NONE, NONE, NONE, NONE, NONE, NONE, 7, BAD);
        row(x, 1, 2, 0, 0, 0, 0, 0, 0, 0, 0, 0, 0, BAD);
        OverAndBack y = CHECK.laid("n60;s9;m0,59,59,4,0;b0,0,0;");
        CHECK.due("first of sixty", y.minute(0, 0, 2), 1);
        CHECK.due("last of sixty", y.minute(0, 59, 0), 4);
        CHECK.due("beyond sixty", y.minute(0, 60, 0), BAD);
    }

    private static void wrongNumbers() {
        OverAndBack x = new OverAndBack();
        CHECK.due("station -1", x.minute(-1, 0, 0), BAD);
        CHECK.due("station 2", x.minute(2, 0, 0), BAD);
        CHECK.due("minute -1", x.minute(0, -1, 0), BAD);
        CHECK.due("what -1", x.minute(0, 0, -1), BAD);
        CHECK.due("what 3", x.minute(0, 0, 3), BAD);
        CHECK.due("set -1", x.known(-1), BAD);
        CHECK.due("set 256", x.known(256), BAD);
    }

    private static void following() {
        for (String text : new String[] {"s1;f0,1,2;f2,2,3;f3,0,7;", "s1;f3,0,7;f2,2,3;f0,1,2;"}) {
            OverAndBack x = CHECK.laid(text);
            CHECK.due("known 0", x.known(0), 0);
            CHECK.due("known 1", x.known(1), 1);
            CHECK.due("known 3", x.known(3), 143);
            CHECK.due("known 4", x.known(4), 12);
            CHECK.due("known 5", x.known(5), 141);
            CHECK.due("known 112", x.known(112), 112);
            CHECK.due("known 255", x.known(255), 255);
        }
        OverAndBack chain = CHECK.laid("s1;f5,5,6;f4,4,5;f3,3,4;f2,2,3;f1,1,2;f0,0,1;");
        CHECK.due("a chain backwards", chain.known(1), 127);
        CHECK.due("its end", chain.known(32), 96);
        CHECK.due("the rules go with the evening", CHECK.laid("s1;").known(3), 3);
    }
}
