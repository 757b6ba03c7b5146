/** Promises 16 to 18: most, understand, soonest. */
public final class MostTest {
    private static final Check CHECK = new Check();
    private static final int NONE = OverAndBack.NONE;
    private static final int BAD = OverAndBack.BAD;

    public static void main(String[] args) {
        mostWorth();
        firstGoing();
        understanding();
        sooner();
        sixGoings();
        atTheEnd();
        wrongNumbers();
        CHECK.end();
    }

    private static void most(OverAndBack x, int s, int t, int... due) {
        for (int what = 0; what < 3; what++) {
            CHECK.due("most " + s + " " + t + " " + what, x.most(s, t, what), due[what]);
        }
    }

    private static void understand(OverAndBack x, int s, int set, int goings, int minutes, int soonest) {
        CHECK.due("understand " + s + " " + set + " 0", x.understand(s, set, 0), goings);
        CHECK.due("understand " + s + " " + set + " 1", x.understand(s, set, 1), minutes);
        CHECK.due("soonest " + s + " " + set, x.soonest(s, set), soonest);
    }

    private static void mostWorth() {
        OverAndBack x = CHECK.laid("n3;s1;s2;g0;");
        most(x, 0, 0, 6, 0, 1);
        most(x, 0, 2, 2, 2, 1);
        most(x, 1, 0, 6, NONE, NONE);
        OverAndBack y = CHECK.laid("n60;s9;s8;g3;");
        most(y, 0, 0, 540, NONE, NONE);
        most(y, 1, 0, 513, 0, 0);
        most(y, 1, 59, 8, NONE, NONE);
        most(y, 1, 32, 225, 32, 0);
        most(y, 1, 33, 216, NONE, NONE);
        OverAndBack chance = CHECK.laid("n2;s1;s9;u1,0,1,10;");
        most(chance, 1, 0, 18, NONE, NONE);
        OverAndBack again = CHECK.laid("n5;s0;s0;s0;g1;m1,1,1,4,8;m0,3,3,5,8;");
        most(again, 0, 0, 9, 0, 1);
        OverAndBack twice = CHECK.laid("n4;s0;s0;s0;g0;m1,1,1,4,8;m2,2,2,5,8;m0,3,3,6,8;");
        most(twice, 0, 0, 15, 1, 1);
        most(twice, 0, 2, 11, 2, 2);
        most(twice, 0, 3, 6, NONE, NONE);
    }

    private static void firstGoing() {
        OverAndBack x = CHECK.laid("n4;s1;s1;s1;m1,3,3,5,8;m2,3,3,5,8;");
        most(x, 0, 0, 7, 2, 1);
        most(x, 1, 0, 8, NONE, NONE);
        most(x, 2, 0, 8, NONE, NONE);
        most(x, 0, 3, 1, NONE, NONE);
        most(CHECK.laid("n5;s0;s0;"), 1, 0, 0, NONE, NONE);
        most(CHECK.laid("n5;s3;s3;g0;"), 1, 2, 9, NONE, NONE);
        most(CHECK.laid("n7;s0;s2;s2;s2;"), 3, 0, 14, NONE, NONE);
        most(CHECK.laid("n7;s0;s2;s2;s2;"), 0, 0, 12, 0, 1);
        most(CHECK.laid("n7;s0;s2;s2;s2;b1,0,6;"), 0, 0, 12, 0, 2);
    }

    private static void understanding() {
        OverAndBack x = CHECK.laid("n10;s0;s0;s0;m0,8,8,0,0;m1,2,3,0,1;m2,5,5,0,2;f1,2,3;");
        understand(x, 0, 0, 0, 0, 0);
        understand(x, 0, 1, 0, 9, 9);
        understand(x, 0, 2, 1, 3, 3);
        understand(x, 0, 8, 2, 6, 6);
        understand(x, 0, 14, 2, 6, 6);
        understand(x, 0, 15, 3, 9, 9);
        understand(x, 1, 2, 0, 3, 3);
        understand(x, 1, 3, 1, 9, 9);
        understand(x, 1, 8, 1, 6, 6);
        understand(x, 2, 8, 2, 6, 6);
        understand(x, 0, 16, NONE, NONE, NONE);
        understand(CHECK.laid("n10;s0;s0;m1,3,3,1,0;b1,3,3;"), 1, 1, NONE, NONE, NONE);
        understand(CHECK.laid("n10;s0;s0;m1,3,3,1,0;u1,3,3,10;"), 1, 1, 0, 4, 4);
        understand(CHECK.laid("n10;s0;m0,10,20,1,0;"), 0, 1, NONE, NONE, NONE);
    }

    private static void sooner() {
        OverAndBack x = CHECK.laid("n10;s0;s0;m0,9,9,0,0;m1,1,1,0,0;");
        understand(x, 0, 1, 0, 10, 2);
        understand(x, 1, 1, 0, 2, 2);
        OverAndBack y = CHECK.laid("n20;s0;s0;s0;m0,1,1,0,0;m1,15,15,0,1;m2,3,3,0,2;m1,5,5,0,3;f2,3,1;");
        understand(y, 0, 3, 1, 16, 6);
    }

    private static void sixGoings() {
        StringBuilder b = new StringBuilder("n20;s0;s0;g0;");
        for (int fact = 0; fact < 8; fact++) {
            int t = fact + 1;
            b.append('m').append(t % 2).append(',').append(t).append(',').append(t).append(",1,").append(fact).append(';');
        }
        OverAndBack x = CHECK.laid(b.toString());
        for (int many = 1; many <= 6; many++) {
            understand(x, 0, (1 << many) - 1, many, many + 1, many + 1);
        }
        understand(x, 0, 127, NONE, NONE, NONE);
        understand(x, 1, 127, 6, 8, 8);
        understand(x, 1, 255, NONE, NONE, NONE);
        understand(x, 0, 170, 0, 9, 9);
        StringBuilder all = new StringBuilder("n9;s0;");
        for (int fact = 0; fact < 8; fact++) {
            all.append("m0,").append(fact).append(',').append(fact).append(",1,").append(7 - fact).append(';');
        }
        OverAndBack y = CHECK.laid(all.toString());
        understand(y, 0, 255, 0, 8, 8);
        understand(y, 0, 254, 0, 7, 7);
        understand(y, 0, 128, 0, 1, 1);
    }

    private static void atTheEnd() {
        understand(CHECK.laid("n3;s0;s0;m1,2,2,0,0;g2;"), 0, 1, 1, 3, 3);
        understand(CHECK.laid("n3;s0;s0;m1,2,2,0,0;g3;"), 0, 1, NONE, NONE, NONE);
        understand(CHECK.laid("n4;s0;s0;m1,3,3,0,0;g3;"), 0, 1, 1, 4, 4);
        understand(CHECK.laid("n1;s0;s0;m1,0,0,0,5;g0;"), 0, 32, 1, 1, 1);
        understand(CHECK.laid("n1;s0;s0;m1,0,0,0,5;g1;"), 0, 32, NONE, NONE, NONE);
        understand(CHECK.laid("n60;s0;s0;s0;s0;m3,59,59,0,7;g3;"), 0, 128, 1, 60, 60);
    }

    private static void wrongNumbers() {
        OverAndBack x = new OverAndBack();
        CHECK.due("most -1", x.most(-1, 0, 0), BAD);
        CHECK.due("most 2", x.most(2, 0, 0), BAD);
        CHECK.due("most at -1", x.most(0, -1, 0), BAD);
        CHECK.due("most at 12", x.most(0, 12, 0), BAD);
        CHECK.due("most what -1", x.most(0, 0, -1), BAD);
        CHECK.due("most what 3", x.most(0, 0, 3), BAD);
        CHECK.due("understand -1", x.understand(-1, 0, 0), BAD);
        CHECK.due("understand 2", x.understand(2, 0, 0), BAD);
        CHECK.due("understand set -1", x.understand(0, -1, 0), BAD);
        CHECK.due("understand set 256", x.understand(0, 256, 0), BAD);
        CHECK.due("understand what -1", x.understand(0, 0, -1), BAD);
        CHECK.due("understand what 2", x.understand(0, 0, 2), BAD);
        CHECK.due("soonest -1", x.soonest(-1, 0), BAD);
        CHECK.due("soonest 2", x.soonest(2, 0), BAD);
        CHECK.due("soonest set -1", x.soonest(0, -1), BAD);
        CHECK.due("soonest set 256", x.soonest(0, 256), BAD);
    }
}
