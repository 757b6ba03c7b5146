/** Promises 8 and 9: watcher, where. */
public final class WatcherTest {
    private static final Check CHECK = new Check();
    private static final int NONE = OverAndBack.NONE;
    private static final int BAD = OverAndBack.BAD;

    public static void main(String[] args) {
        fourKinds();
        overByOthers();
        backToHisOwn();
        bestOfSeveral();
        lengthsOfGoing();
        whatHeKnows();
        wrongNumbers();
        CHECK.end();
    }

    private static void is(OverAndBack x, int i, int... due) {
        for (int what = 0; what < due.length; what++) {
            CHECK.due("watcher " + i + " " + what, x.watcher(i, what), due[what]);
        }
    }

    private static void on(OverAndBack x, int i, int... due) {
        for (int t = 0; t < due.length; t++) {
            CHECK.due("where " + i + " " + t, x.where(i, t), due[t]);
        }
    }

    private static void fourKinds() {
        OverAndBack x = CHECK.laid("n8;s1;s2;s3;b0,2,3;b1,2,2;g1;w1,0;w2,1;w3,0;w0,2;");
        is(x, 0, 1, 0, 17, 0, 1, 4);
        on(x, 0, 0, 0, NONE, 2, 2, 2, 2, 2, BAD);
        is(x, 1, 2, 1, 12, 0, 2, 9);
        on(x, 1, 1, 1, NONE, NONE, 1, 1, 1, 1, BAD);
        is(x, 2, 3, 0, 21, 0, 1, 0);
        on(x, 2, NONE, 2, 2, 2, 2, 2, 2, 2, BAD);
        is(x, 3, 0, 2, 24, 0, 0, 0);
        on(x, 3, 2, 2, 2, 2, 2, 2, 2, 2, BAD);
    }

    private static void overByOthers() {
        is(CHECK.laid("n4;s5;s5;b0,0,3;b1,0,3;w1,0;"), 0, 1, 0, 0, 0, 0, 0);
        OverAndBack round = CHECK.laid("n3;s1;s1;s4;b2,0,0;w1,2;");
        on(round, 0, NONE, 0, 0);
        OverAndBack past = CHECK.laid("n3;s1;s1;s4;s2;b1,0,0;b2,0,0;w1,1;g0;");
        on(past, 0, 3, 3, 3);
        is(CHECK.laid("n4;s5;b0,1,2;w1,0;"), 0, 1, 0, 10, 0, 0, 0);
        OverAndBack chance = CHECK.laid("n3;s1;s2;u0,0,2,10;w1,0;");
        on(chance, 0, 0, 0, 0);
    }

    private static void backToHisOwn() {
        OverAndBack x = CHECK.laid("n6;s1;s2;s3;b0,0,3;g0;w2,0;");
        on(x, 0, 1, 1, 1, 1, 0, 0);
        is(x, 0, 2, 0, 10, 0, 2);
        OverAndBack y = CHECK.laid("n4;s1;s2;s3;b0,0,3;b1,2,3;g0;w2,0;");
        on(y, 0, 1, 1, 2, 2);
        is(y, 0, 2, 0, 10, 0, 2);
        OverAndBack all = CHECK.laid("n5;s1;s2;b0,1,2;b1,2,2;g0;w2,0;");
        on(all, 0, 0, 1, 1, 0, 0);
    }

    private static void bestOfSeveral() {
        on(CHECK.laid("n2;s5;s7;s7;g0;w3,0;"), 0, 1, 1);
        on(CHECK.laid("n2;s5;s7;s7;g0;w3,2;"), 0, 2, 2);
        on(CHECK.laid("n2;s0;s7;g0;b1,0,0;w3,1;"), 0, 1, 1);
        on(CHECK.laid("n2;s1;s7;g0;b1,0,0;w3,1;"), 0, 0, 1);
        on(CHECK.laid("n4;s1;s7;g2;b1,1,1;w3,1;"), 0, 1, NONE, NONE, NONE);
    }

    private static void lengthsOfGoing() {
        is(CHECK.laid("n3;s0;s9;g3;w3,0;"), 0, 3, 0, 0, 0, 1, 0);
        is(CHECK.laid("n4;s0;s9;g3;w3,0;"), 0, 3, 0, 9, 0, 1, 0);
        is(CHECK.laid("n3;s0;s9;g2;w3,0;"), 0, 3, 0, 9, 0, 1, 0);
        is(CHECK.laid("n3;s0;s9;w3,0;"), 0, 3, 0, 18, 0, 1, 0);
        is(CHECK.laid("n3;s0;s9;g0;w3,0;"), 0, 3, 0, 27, 0, 1, 0);
        is(CHECK.laid("n1;s0;s9;g3;g0;g1;w3,0;"), 0, 3, 0, 0, 0, 1, 0);
        OverAndBack early = CHECK.laid("n6;s3;s0;g2;m1,0,0,9,8;w3,0;");
        on(early, 0, NONE, NONE, NONE, NONE, 0, 0);
        is(early, 0, 3, 0, 6, 0, 2, 12);
    }

    private static void whatHeKnows() {
        OverAndBack x = CHECK.laid("n6;s1;s1;m0,0,0,1,3;m0,5,5,1,6;m1,1,1,1,5;b0,0,0;b0,1,4;f3,6,0;f6,6,1;w0,0;w1,0;w2,0;w0,1;");
        CHECK.due("stays on 0", x.watcher(0, 3), 66);
        CHECK.due("over", x.watcher(1, 3), 32);
        CHECK.due("back", x.watcher(2, 3), 32);
        CHECK.due("stays on 1", x.watcher(3, 3), 32);
    }

    private static void wrongNumbers() {
        OverAndBack x = new OverAndBack();
        CHECK.due("watcher -1", x.watcher(-1, 0), BAD);
        CHECK.due("watcher 4", x.watcher(4, 0), BAD);
        CHECK.due("what -1", x.watcher(0, -1), BAD);
        CHECK.due("what 6", x.watcher(0, 6), BAD);
        CHECK.due("where -1", x.where(-1, 0), BAD);
        CHECK.due("where 4", x.where(4, 0), BAD);
        CHECK.due("where at -1", x.where(0, -1), BAD);
        CHECK.due("where at 12", x.where(0, 12), BAD);
        OverAndBack none = CHECK.laid("s1;");
        CHECK.due("no watchers", none.watcher(0, 0), BAD);
        CHECK.due("none is anywhere", none.where(0, 0), BAD);
    }
}
