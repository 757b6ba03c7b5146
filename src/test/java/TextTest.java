/** Promises 1 to 5 and 28: a new object, write, wipe, fault, lay, count. */
public final class TextTest {
    private static final Check CHECK = new Check();

    public static void main(String[] args) {
        newObject();
        letters();
        items();
        stations();
        spans();
        tooMany();
        laying();
        CHECK.end();
    }

    private static void fault(String text, int want) {
        OverAndBack x = new OverAndBack();
        Check.write(x, text);
        CHECK.due("fault of " + text, x.fault(), want);
        CHECK.due("lay of " + text, x.lay() == OverAndBack.NO ? 1 : 0, want != OverAndBack.NONE || !text.contains("s") ? 1 : 0);
        CHECK.due("letters of " + text, x.count(9), text.length());
    }

    private static void newObject() {
        OverAndBack x = new OverAndBack();
        int[] due = {2, 12, 2, 2, 0, 4, 0, 0, 0, 0};
        for (int what = 0; what < due.length; what++) {
            CHECK.due("count " + what, x.count(what), due[what]);
        }
        CHECK.due("count -1", x.count(-1), OverAndBack.BAD);
        CHECK.due("count 10", x.count(10), OverAndBack.BAD);
        CHECK.due("fault of nothing", x.fault(), OverAndBack.NONE);
        CHECK.due("lay of nothing", x.lay(), OverAndBack.NO);
        CHECK.due("wipe of nothing", x.wipe(), 0);
        CHECK.due("undo of nothing", x.undo(), OverAndBack.NO);
        CHECK.due("back to nothing", x.back(), OverAndBack.NO);
        CHECK.due("judge of nothing", x.judge(), OverAndBack.NONE);
        CHECK.due("at 0", x.at(0), 0);
    }

    private static void letters() {
        OverAndBack x = new OverAndBack();
        for (int letter : new int[] {31, 127, 0, -1, 1000, Integer.MIN_VALUE, Integer.MAX_VALUE}) {
            CHECK.due("write " + letter, x.write(letter), OverAndBack.BAD);
        }
        CHECK.due("nothing written", x.count(9), 0);
        CHECK.due("write 32", x.write(32), 1);
        CHECK.due("write 126", x.write(126), 2);
        CHECK.due("fault at a blank", x.fault(), 0);
        for (int k = 3; k <= 200; k++) {
            CHECK.due("write " + k, x.write('s'), k);
        }
        CHECK.due("write beyond", x.write('s'), OverAndBack.FULL);
        CHECK.due("bad ahead of full", x.write(31), OverAndBack.BAD);
        CHECK.due("full text", x.count(9), 200);
        CHECK.due("wipe", x.wipe(), 200);
        CHECK.due("wipe again", x.wipe(), 0);
        CHECK.due("write anew", x.write('s'), 1);
    }

    private static void items() {
        fault("", OverAndBack.NONE);
        fault("n", 0);
        fault("n;", 0);
        fault("n1", 0);
        fault("n1,", 0);
        fault("n1;", OverAndBack.NONE);
        fault("n01;", OverAndBack.NONE);
        fault("n001;", 0);
        fault("n0;", 0);
        fault("n60;", OverAndBack.NONE);
        fault("n61;", 0);
        fault("n1,2;", 0);
        fault("n1,;", 0);
        fault("n,1;", 0);
        fault("n;;", 0);
        fault("n1;;", 3);
        fault("n1/;", 0);
        fault("n1;;", 3);
        fault("n1; s1;", 3);
        fault("N1;", 0);
        fault("x1;", 0);
        fault("1;", 0);
        fault("g0;g3;", OverAndBack.NONE);
        fault("g3;g4;", 3);
        fault("g1,1;", 0);
        fault("f0,0,0;f7,7,7;", OverAndBack.NONE);
        fault("f8,0,0;", 0);
        fault("f0,8,0;", 0);
        fault("f0,0,8;", 0);
        fault("f0,0;", 0);
        fault("f0,0,0,0;", 0);
        fault("f0,0,0,0,0,0;", 0);
        fault("n1;n2;n3;g1;g2;n4", 15);
    }

    private static void stations() {
        fault("s0;s9;", OverAndBack.NONE);
        fault("s10;", 0);
        fault("s1,1;", 0);
        fault("s1;s1;s1;s1;", OverAndBack.NONE);
        fault("s1;s1;s1;s1;s1;", 12);
        fault("s1;w0,0;w3,0;", OverAndBack.NONE);
        fault("w0,0;s1;", 0);
        fault("s1;w4,0;", 3);
        fault("s1;w0,1;", 3);
        fault("s1;w0;", 3);
        fault("s1;w0,0,0;", 3);
        fault("s1;s1;w0,1;", OverAndBack.NONE);
    }

    private static void spans() {
        fault("s1;m0,0,59,9,8;", OverAndBack.NONE);
        fault("s1;m0,5,5,0,0;", OverAndBack.NONE);
        fault("m0,0,1,1,1;s1;", 0);
        fault("s1;m1,0,1,1,1;", 3);
        fault("s1;m0,5,4,1,1;", 3);
        fault("s1;m0,60,60,1,1;", 3);
        fault("s1;m0,0,60,1,1;", 3);
        fault("s1;m0,0,1,10,1;", 3);
        fault("s1;m0,0,1,1,9;", 3);
        fault("s1;m0,0,1,1;", 3);
        fault("s1;m0,0,1,1,1,1;", 3);
        fault("s1;b0,0,59;", OverAndBack.NONE);
        fault("s1;b1,0,0;", 3);
        fault("s1;b0,1,0;", 3);
        fault("s1;b0,0,60;", 3);
        fault("s1;b0,0;", 3);
        fault("s1;b0,0,0,0;", 3);
        fault("s1;u0,0,59,10;", OverAndBack.NONE);
        fault("s1;u0,0,0,0;", OverAndBack.NONE);
        fault("s1;u0,0,0,11;", 3);
        fault("s1;u1,0,0,1;", 3);
        fault("s1;u0,1,0,1;", 3);
        fault("s1;u0,0,60,1;", 3);
        fault("s1;u0,0,0;", 3);
        fault("s1;u0,0,0,1,1;", 3);
        fault("n1;s1;b0,50,59;", OverAndBack.NONE);
    }

    private static void tooMany() {
        fault("s1;" + "m0,0,0,0,0;".repeat(9), OverAndBack.NONE);
        fault("s1;" + "m0,0,0,0,0;".repeat(10), 3 + 99);
        fault("s1;" + "b0,0,0;".repeat(6), OverAndBack.NONE);
        fault("s1;" + "b0,0,0;".repeat(7), 3 + 42);
        fault("s1;" + "u0,0,0,0;".repeat(4), OverAndBack.NONE);
        fault("s1;" + "u0,0,0,0;".repeat(5), 3 + 36);
        fault("s1;" + "f0,0,0;".repeat(6), OverAndBack.NONE);
        fault("s1;" + "f0,0,0;".repeat(7), 3 + 42);
        fault("s1;" + "w0,0;".repeat(4), OverAndBack.NONE);
        fault("s1;" + "w0,0;".repeat(5), 3 + 20);
        fault("n1;".repeat(66) + "g1", 198);
    }

    private static void laying() {
        OverAndBack x = new OverAndBack();
        x.begin(1);
        x.over(3, 0);
        x.keep();
        Check.write(x, "s1;s");
        CHECK.due("lay of a fault", x.lay(), OverAndBack.NO);
        CHECK.due("stations stay", x.count(0), 2);
        CHECK.due("goings stay", x.count(6), 1);
        CHECK.due("undone stay", x.count(7), 2);
        CHECK.due("kept stay", x.count(8), 1);
        CHECK.due("beginning stays", x.at(0), 1);
        x.wipe();
        Check.write(x, "n5;g2;");
        CHECK.due("no station", x.lay(), OverAndBack.NO);
        CHECK.due("minutes stay", x.count(1), 12);
        Check.write(x, "s1;s2;s3;m0,0,0,0,0;b0,0,0;b1,0,0;b1,1,1;u0,0,0,1;u0,1,1,1;w0,0;");
        CHECK.due("lay", x.lay(), 3);
        int[] due = {3, 5, 1, 3, 2, 1, 0, 0, 0, 70};
        for (int what = 0; what < due.length; what++) {
            CHECK.due("count behind lay " + what, x.count(what), due[what]);
        }
        CHECK.due("begins on 0", x.at(0), 0);
        CHECK.due("nothing undone", x.undo(), OverAndBack.NO);
        CHECK.due("nothing kept", x.back(), OverAndBack.NO);
        x.wipe();
        CHECK.due("laid still", x.count(0), 3);
        Check.write(x, "n5;s1;n7;");
        x.lay();
        CHECK.due("the last n", x.count(1), 7);
        x.wipe();
        Check.write(x, "s1;");
        x.lay();
        CHECK.due("without n", x.count(1), 30);
        for (int k = 0; k < 3; k++) {
            x.wipe();
            Check.write(x, k == 0 ? "g3;s1;s2;" : "s1;s2;");
            x.lay();
            x.over(0, 1);
            CHECK.due("without g", x.at(1), k == 0 ? OverAndBack.NONE : 1);
            CHECK.due("without g", x.at(0), OverAndBack.NONE);
        }
    }
}
