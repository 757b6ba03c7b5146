/** Promises 21 and 22: mean, sure. */
public final class ChanceTest {
    private static final Check CHECK = new Check();
    private static final int BAD = OverAndBack.BAD;

    public static void main(String[] args) {
        means();
        actsByBreaks();
        certain();
        wrongNumbers();
        CHECK.end();
    }

    private static void mean(OverAndBack x, int i, int above, int below) {
        CHECK.due("mean " + i + " above", x.mean(i, 0), above);
        CHECK.due("mean " + i + " below", x.mean(i, 1), below);
    }

    private static void means() {
        mean(CHECK.laid("n10;s4;u0,0,4,5;w0,0;"), 0, 30, 1);
        mean(CHECK.laid("n10;s4;u0,0,4,3;w0,0;"), 0, 34, 1);
        mean(CHECK.laid("n1;s1;u0,0,0,3;"), -1, 7, 10);
        mean(CHECK.laid("n1;s1;u0,0,0,5;u0,0,0,5;"), -1, 1, 4);
        mean(CHECK.laid("n1;s1;u0,0,0,1;u0,0,0,1;u0,0,0,1;u0,0,0,1;"), -1, 6561, 10000);
        mean(CHECK.laid("n1;s1;u0,0,0,10;"), -1, 0, 1);
        mean(CHECK.laid("n1;s1;u0,0,0,0;"), -1, 1, 1);
        mean(CHECK.laid("n2;s1;u0,0,0,2;u0,1,1,6;"), -1, 6, 5);
        mean(CHECK.laid("n60;s9;w0,0;"), 0, 540, 1);
        mean(CHECK.laid("n2;s5;b0,0,0;u0,0,1,4;"), -1, 3, 1);
    }

    private static void actsByBreaks() {
        OverAndBack x = CHECK.laid("n4;s1;s9;u0,1,1,5;w1,0;w0,0;w3,1;");
        mean(x, 0, 1 + 18 + 4, 2);
        mean(x, 1, 3 + 4, 2);
        mean(x, 2, 36, 1);
        x.over(0, 1);
        mean(x, -1, 27, 1);
        CHECK.due("none comes else", x.watcher(0, 2), 4);
        OverAndBack best = CHECK.laid("n3;s1;s9;u1,0,0,3;g0;w3,1;");
        mean(best, 0, 123, 5);
    }

    private static void certain() {
        OverAndBack x = CHECK.laid("n4;s1;s1;m0,0,0,1,0;m0,2,3,1,1;m1,3,3,1,2;f0,2,5;u0,2,2,5;w0,0;w1,0;w2,1;");
        CHECK.due("stays", x.sure(0), 3);
        CHECK.due("over", x.sure(1), 1);
        CHECK.due("back", x.sure(2), 4);
        CHECK.due("the plan", x.sure(-1), 3);
        x.over(2, 1);
        CHECK.due("the plan over", x.sure(-1), 37);
        OverAndBack y = CHECK.laid("n2;s1;m0,0,0,1,6;u0,0,0,0;m0,1,1,1,7;u0,1,1,10;");
        CHECK.due("never and always", y.sure(-1), 64);
        CHECK.due("told of no chance", y.plan(1), 192);
        OverAndBack either = CHECK.laid("n2;s1;s1;m0,0,0,1,0;m1,1,1,1,1;f0,0,4;f1,1,4;u0,0,0,5;w1,0;g0;");
        CHECK.due("by either way", either.sure(0), 16);
    }

    private static void wrongNumbers() {
        OverAndBack x = new OverAndBack();
        CHECK.due("mean -2", x.mean(-2, 0), BAD);
        CHECK.due("mean 4", x.mean(4, 0), BAD);
        CHECK.due("part -1", x.mean(0, -1), BAD);
        CHECK.due("part 2", x.mean(0, 2), BAD);
        CHECK.due("plan's part 2", x.mean(-1, 2), BAD);
        CHECK.due("sure -2", x.sure(-2), BAD);
        CHECK.due("sure 4", x.sure(4), BAD);
        OverAndBack none = CHECK.laid("n2;s3;");
        CHECK.due("no watchers", none.mean(0, 0), BAD);
        CHECK.due("no watchers", none.sure(0), BAD);
        mean(none, -1, 6, 1);
    }
}
