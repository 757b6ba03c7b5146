/** Promises 23 to 25: fits, matters, night. */
public final class FitsTest {
    private static final Check CHECK = new Check();
    private static final int BAD = OverAndBack.BAD;

    public static void main(String[] args) {
        fitting();
        mattering();
        nights();
        wrongNumbers();
        CHECK.end();
    }

    /** Facts 0 and 1 on station 0 at both ends, 2 on station 1 in the break between. */
    private static void fitting() {
        OverAndBack x = CHECK.laid("n6;s3;s2;m0,0,0,3,0;m0,5,5,3,1;b0,2,3;m1,3,3,2,2;f1,2,7;u0,0,5,10;");
        CHECK.due("stays on 0 alone", x.fits(3), bit(0, 0));
        CHECK.due("on 1", x.fits(4), bit(0, 1) | bit(1, 1) | bit(2, 1));
        CHECK.due("over from 0", x.fits(5), bit(1, 0));
        CHECK.due("there and back", x.fits(135), bit(2, 0) | bit(3, 0));
        CHECK.due("best from 1", x.fits(134), bit(3, 1));
        CHECK.due("none", x.fits(0), 0);
        CHECK.due("all", x.fits(255), 0);
        CHECK.due("four stations", CHECK.laid("n2;s1;s1;s1;s1;").fits(0), 65535);
    }

    private static int bit(int kind, int station) {
        return 1 << (4 * kind + station);
    }

    private static void mattering() {
        OverAndBack x = CHECK.laid("n6;s1;s1;m0,0,0,1,0;m0,1,1,2,8;m0,2,2,1,8;m1,3,3,9,8;m0,4,4,1,3;m0,4,4,1,3;m0,9,9,9,1;w0,0;w3,0;w0,1;");
        CHECK.due("stays", x.matters(0), 1 | 2);
        CHECK.due("best", x.matters(1), 1 | 2 | 8);
        CHECK.due("the other", x.matters(2), 8);
        OverAndBack above = CHECK.laid("n3;s1;m0,0,2,5,2;m0,1,1,5,3;f2,2,3;w0,0;");
        CHECK.due("what another tells too", above.matters(0), 1);
        OverAndBack under = CHECK.laid("n3;s1;m0,1,1,5,3;m0,0,2,5,3;w0,0;");
        CHECK.due("hidden by the last", under.matters(0), 2);
        CHECK.due("no scenes", CHECK.laid("n3;s1;w0,0;").matters(0), 0);
        OverAndBack chance = CHECK.laid("n3;s1;m0,1,1,5,3;u0,0,2,10;w0,0;");
        CHECK.due("without chances", chance.matters(0), 1);
        CHECK.due("though it would with them", CHECK.laid("n3;s1;m0,1,1,1,8;u0,0,2,10;w0,0;").matters(0), 0);
        OverAndBack hidden = CHECK.laid("n3;s1;m0,1,1,5,3;b0,1,1;w0,0;");
        CHECK.due("in a break", hidden.matters(0), 0);
        OverAndBack ninth = CHECK.laid("n9;s0;" + "m0,0,0,0,8;".repeat(8) + "m0,3,3,0,0;w0,0;");
        CHECK.due("the ninth", ninth.matters(0), 256);
    }

    /** By hand: on station 0 breaks at 6, 7 and 11, on station 1 at 4 and 8. */
    private static void nights() {
        OverAndBack x = new OverAndBack();
        int[] worth = {33, 34, 34, 32};
        int[] goings = {0, 3, 3, 4};
        for (int i = 0; i < 4; i++) {
            CHECK.due("night worth " + i, x.night(0, i, 0), worth[i]);
            CHECK.due("night goings " + i, x.night(0, i, 1), goings[i]);
        }
        int[][] broken = {{0, 6}, {0, 7}, {0, 11}, {1, 1}, {1, 4}, {1, 7}, {1, 9}, {1, 10}, {1, 11}, {9999, 1}, {9999, 2}, {9999, 3},
            {9999, 5}, {9999, 8}, {9999, 11}};
        for (int z : new int[] {0, 1, 9999}) {
            OverAndBack one = CHECK.laid("n12;s1;w0,0;b0,0,11;u0,0,11,10;");
            int many = 0;
            for (int[] b : broken) {
                many += b[0] == z ? 1 : 0;
            }
            CHECK.due("minutes of night " + z, one.night(z, 0, 0), 12 - many);
        }
        CHECK.due("the evening stays", x.watcher(1, 2), 37);
        CHECK.due("a break at minute 0", CHECK.laid("n1;s7;w0,0;").night(5, 0, 0), 0);
        CHECK.due("none at minute 0", CHECK.laid("n1;s7;w0,0;").night(4, 0, 0), 7);
        CHECK.due("a break on station 3", CHECK.laid("n1;s1;s1;s1;s7;w0,3;").night(9994, 0, 0), 0);
        CHECK.due("none on station 3", CHECK.laid("n1;s1;s1;s1;s7;w0,3;").night(9995, 0, 0), 7);
        CHECK.due("sixty minutes", CHECK.laid("n60;s1;s1;s1;s1;w0,3;").night(9995, 0, 0), 39);
    }

    private static void wrongNumbers() {
        OverAndBack x = new OverAndBack();
        CHECK.due("fits -1", x.fits(-1), BAD);
        CHECK.due("fits 256", x.fits(256), BAD);
        CHECK.due("matters -1", x.matters(-1), BAD);
        CHECK.due("matters 4", x.matters(4), BAD);
        CHECK.due("night -1", x.night(-1, 0, 0), BAD);
        CHECK.due("night 10000", x.night(10000, 0, 0), BAD);
        CHECK.due("night of -1", x.night(0, -1, 0), BAD);
        CHECK.due("night of 4", x.night(0, 4, 0), BAD);
        CHECK.due("night what -1", x.night(0, 0, -1), BAD);
        CHECK.due("night what 2", x.night(0, 0, 2), BAD);
        OverAndBack none = CHECK.laid("n2;s3;");
        CHECK.due("no watchers matter", none.matters(0), BAD);
        CHECK.due("no watchers at night", none.night(0, 0, 0), BAD);
    }
}
