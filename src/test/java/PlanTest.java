/** Promises 10 to 15, 26 and 27: begin, over, undo, judge, plan, at, keep, back. */
public final class PlanTest {
    private static final Check CHECK = new Check();
    private static final int NONE = OverAndBack.NONE;
    private static final int BAD = OverAndBack.BAD;
    private static final int NO = OverAndBack.NO;
    private static final int FULL = OverAndBack.FULL;

    public static void main(String[] args) {
        goings();
        atOnce();
        slowGoings();
        leftOut();
        limits();
        undoing();
        beginning();
        keeping();
        wrongNumbers();
        CHECK.end();
    }

    private static void on(OverAndBack x, int... due) {
        for (int t = 0; t < due.length; t++) {
            CHECK.due("at " + t, x.at(t), due[t]);
        }
    }

    private static void sums(OverAndBack x, int worth, int knows, int done) {
        CHECK.due("plan 0", x.plan(0), worth);
        CHECK.due("plan 1", x.plan(1), knows);
        CHECK.due("plan 2", x.plan(2), done);
    }

    private static void goings() {
        OverAndBack x = CHECK.laid("n6;s1;s2;s4;m1,2,2,7,0;m2,5,5,9,1;f0,1,4;u1,2,2,10;");
        on(x, 0, 0, 0, 0, 0, 0, BAD);
        sums(x, 6, 0, 0);
        CHECK.due("over", x.over(1, 1), 1);
        on(x, 0, NONE, 1, 1, 1, 1, BAD);
        sums(x, 1 + 7 + 6, 1, 1);
        CHECK.due("over", x.over(3, 2), 2);
        on(x, 0, NONE, 1, NONE, 2, 2, BAD);
        sums(x, 1 + 7 + 4 + 9, 19, 2);
        CHECK.due("over at the last", x.over(5, 0), 3);
        on(x, 0, NONE, 1, NONE, 2, NONE, BAD);
        sums(x, 1 + 7 + 4, 1, 3);
        CHECK.due("judge", x.judge(), NONE);
        CHECK.due("begin", x.begin(1), 0);
        CHECK.due("to where one is", x.judge(), 0);
        on(x, 1, 1, 1, NONE, 2, NONE, BAD);
        sums(x, 2 + 2 + 7 + 4, 1, 2);
    }

    private static void atOnce() {
        OverAndBack x = CHECK.laid("n4;s1;s2;s4;g0;");
        x.over(1, 1);
        x.over(1, 2);
        CHECK.due("not twice in a minute", x.judge(), 1);
        on(x, 0, 1, 1, 1);
        x.over(2, 2);
        on(x, 0, 1, 2, 2);
        sums(x, 1 + 2 + 8, 0, 2);
        OverAndBack y = CHECK.laid("n3;s1;s2;g0;");
        y.over(0, 1);
        on(y, 1, 1, 1);
        CHECK.due("at once at 0", y.plan(0), 6);
    }

    private static void slowGoings() {
        OverAndBack x = CHECK.laid("n9;s1;s2;s4;g3;");
        x.over(1, 1);
        x.over(3, 2);
        CHECK.due("still going", x.judge(), 1);
        on(x, 0, NONE, NONE, NONE, 1, 1, 1, 1, 1, BAD);
        x.over(4, 2);
        on(x, 0, NONE, NONE, NONE, NONE, NONE, NONE, 2, 2, BAD);
        sums(x, 1 + 8, 0, 2);
        x.over(8, 0);
        on(x, 0, NONE, NONE, NONE, NONE, NONE, NONE, 2, NONE, BAD);
        CHECK.due("done", x.plan(2), 3);
        OverAndBack y = CHECK.laid("n4;s1;s2;");
        y.over(0, 1);
        y.over(1, 0);
        CHECK.due("as soon as one can", y.judge(), NONE);
        on(y, NONE, NONE, 0, 0);
    }

    private static void leftOut() {
        OverAndBack x = CHECK.laid("n9;s1;s2;s4;");
        x.over(5, 1);
        x.over(2, 2);
        CHECK.due("not behind the last", x.judge(), 1);
        on(x, 0, 0, 0, 0, 0, NONE, 1, 1, 1, BAD);
        x.over(7, 1);
        CHECK.due("the first is told", x.judge(), 1);
        x.over(7, 2);
        CHECK.due("one left out does not hold another up", x.plan(2), 2);
        on(x, 0, 0, 0, 0, 0, NONE, 1, NONE, 2, BAD);
        CHECK.due("all are counted", x.count(6), 4);
    }

    private static void limits() {
        OverAndBack x = CHECK.laid("n60;s1;s2;");
        for (int k = 1; k <= 9; k++) {
            CHECK.due("over " + k, x.over(59, 0), k);
        }
        CHECK.due("over 10", x.over(0, 0), FULL);
        CHECK.due("bad ahead of full", x.over(60, 0), BAD);
        CHECK.due("bad ahead of full", x.over(0, 2), BAD);
        CHECK.due("nothing changes", x.count(6), 9);
        CHECK.due("nothing changes", x.count(7), 8);
        CHECK.due("undo", x.undo(), 7);
        CHECK.due("over again", x.over(1, 1), 9);
        CHECK.due("undone again", x.count(7), 8);
        CHECK.due("none done", x.plan(2), 1);
        CHECK.due("first is wrong", x.judge(), 0);
    }

    private static void undoing() {
        OverAndBack x = CHECK.laid("n9;s1;s2;s4;");
        x.over(1, 1);
        x.begin(2);
        x.over(3, 0);
        x.begin(1);
        CHECK.due("can be undone", x.count(7), 4);
        CHECK.due("undo the beginning", x.undo(), 3);
        CHECK.due("begins on", x.at(0), 2);
        CHECK.due("undo a going", x.undo(), 2);
        CHECK.due("goings", x.count(6), 1);
        CHECK.due("undo the beginning", x.undo(), 1);
        CHECK.due("begins on", x.at(0), 0);
        CHECK.due("undo a going", x.undo(), 0);
        CHECK.due("goings", x.count(6), 0);
        CHECK.due("nothing more", x.undo(), NO);
        for (int k = 0; k < 10; k++) {
            x.begin(k % 2 + 1);
        }
        CHECK.due("eight at most", x.count(7), 8);
        for (int k = 7; k >= 0; k--) {
            CHECK.due("undo", x.undo(), k);
        }
        CHECK.due("the ninth stays", x.at(0), 2);
        CHECK.due("no ninth", x.undo(), NO);
    }

    private static void beginning() {
        OverAndBack x = CHECK.laid("n9;s1;s2;s4;");
        CHECK.due("begin", x.begin(2), 0);
        CHECK.due("begin", x.begin(1), 2);
        CHECK.due("not elsewhere", x.begin(1), 1);
        CHECK.due("only elsewhere can be undone", x.count(7), 2);
        CHECK.due("bad", x.begin(3), BAD);
        CHECK.due("bad", x.begin(-1), BAD);
        CHECK.due("nothing changes", x.at(0), 1);
        CHECK.due("nothing changes", x.count(7), 2);
    }

    private static void keeping() {
        OverAndBack x = CHECK.laid("n9;s1;s2;s4;");
        x.begin(1);
        x.over(2, 0);
        CHECK.due("keep", x.keep(), 1);
        CHECK.due("still can be undone", x.count(7), 2);
        x.over(4, 2);
        CHECK.due("keep", x.keep(), 2);
        CHECK.due("keep", x.keep(), FULL);
        CHECK.due("kept", x.count(8), 2);
        x.begin(2);
        x.undo();
        x.undo();
        x.undo();
        x.over(7, 2);
        CHECK.due("back", x.back(), 1);
        on(x, 1, 1, NONE, 0, NONE, 2, 2, 2, 2, BAD);
        CHECK.due("goings", x.count(6), 2);
        CHECK.due("nothing undone", x.count(7), 0);
        CHECK.due("nothing undone", x.undo(), NO);
        x.over(6, 0);
        CHECK.due("back", x.back(), 0);
        on(x, 1, 1, NONE, 0, 0, 0, 0, 0, 0, BAD);
        CHECK.due("goings", x.count(6), 1);
        CHECK.due("nothing undone", x.count(7), 0);
        x.over(5, 1);
        CHECK.due("no more", x.back(), NO);
        CHECK.due("nothing changes", x.count(6), 2);
        CHECK.due("nothing changes", x.count(7), 1);
        CHECK.due("keep again", x.keep(), 1);
    }

    private static void wrongNumbers() {
        OverAndBack x = new OverAndBack();
        CHECK.due("over at -1", x.over(-1, 0), BAD);
        CHECK.due("over at 12", x.over(12, 0), BAD);
        CHECK.due("over to -1", x.over(0, -1), BAD);
        CHECK.due("over to 2", x.over(0, 2), BAD);
        CHECK.due("nothing told", x.count(6), 0);
        CHECK.due("nothing to undo", x.count(7), 0);
        CHECK.due("plan -1", x.plan(-1), BAD);
        CHECK.due("plan 3", x.plan(3), BAD);
        CHECK.due("at -1", x.at(-1), BAD);
        CHECK.due("at 12", x.at(12), BAD);
    }
}
