import java.util.function.IntUnaryOperator;

/** Promises 1 to 28, each for itself: the numbers a call takes, all of them and one beyond, and what it answers at the bounds. */
public final class CallBoundsTest {
    private static final Check CHECK = new Check();
    private static final int NONE = OverAndBack.NONE;
    private static final int BAD = OverAndBack.BAD;
    private static final int NO = OverAndBack.NO;
    private static final int FULL = OverAndBack.FULL;

    public static void main(String[] args) {
        newObject();
        write();
        wipeAndFault();
        lay();
        minute();
        known();
        watcher();
        where();
        begin();
        over();
        undo();
        judge();
        plan();
        at();
        most();
        understand();
        soonest();
        ask();
        fair();
        mean();
        sure();
        fits();
        matters();
        night();
        keep();
        back();
        count();
        CHECK.end();
    }

    /** Just least to greatest are taken: each of them is not BAD, all others are. */
    private static void takes(String name, int least, int greatest, IntUnaryOperator call) {
        for (int n = least; n <= greatest; n++) {
            CHECK.due(name + " takes " + n, call.applyAsInt(n) == BAD ? 1 : 0, 0);
        }
        for (int n : new int[] {least - 1, greatest + 1, greatest + 2, least - 100, greatest + 256, Integer.MIN_VALUE, Integer.MAX_VALUE}) {
            CHECK.due(name + " does not take " + n, call.applyAsInt(n), BAD);
        }
    }

    private static OverAndBack greatest() {
        return CHECK.laid("n60;s1;s2;s3;s4;w0,0;w1,1;w2,2;w3,3;");
    }

    private static OverAndBack least() {
        return CHECK.laid("n1;s1;");
    }

    // ---- evenings

    private static void newObject() {
        CHECK.says("`OverAndBack()`: As told.");
        OverAndBack x = new OverAndBack();
        int[] due = {2, 12, 2, 2, 0, 4, 0, 0, 0, 0};
        for (int what = 0; what < due.length; what++) {
            CHECK.due("count " + what, x.count(what), due[what]);
        }
        CHECK.due("the text is empty", x.fault(), NONE);
        CHECK.due("the text is empty", x.wipe(), 0);
        CHECK.due("nothing undone", x.undo(), NO);
        CHECK.due("nothing kept", x.back(), NO);
        CHECK.due("the plan begins on 0", x.at(0), 0);
        CHECK.due("the plan is worth", x.plan(0), 35);
        CHECK.due("going takes 1", x.where(1, 5), NONE);
        CHECK.due("going takes 1", x.where(1, 6), 1);
        CHECK.due("another object is another one", new OverAndBack().write('s'), 1);
    }

    private static void write() {
        CHECK.says("`int write(int letter)`: A letter (32 to 126, as in ASCII) comes behind THE TEXT: how long it is. BAD; FULL.");
        OverAndBack x = new OverAndBack();
        for (int letter = 32; letter <= 126; letter++) {
            CHECK.due("write " + letter, x.write(letter), letter - 31);
        }
        for (int letter : new int[] {31, 127, 128, 255, 256 + 's', -1, 0, 65536 + 's', Integer.MIN_VALUE, Integer.MAX_VALUE}) {
            CHECK.due("write " + letter, x.write(letter), BAD);
        }
        CHECK.due("letters", x.count(9), 95);
        for (int k = 96; k <= 200; k++) {
            CHECK.due("write", x.write('1'), k);
        }
        CHECK.due("full", x.write('1'), FULL);
        CHECK.due("bad ahead of full", x.write(31), BAD);
        CHECK.due("letters", x.count(9), 200);
        OverAndBack y = new OverAndBack();
        for (char letter : "s1;".toCharArray()) {
            y.write(letter);
        }
        CHECK.due("behind the text, in its order", y.lay(), 1);
    }

    private static void wipeAndFault() {
        CHECK.says("`int wipe()`: THE TEXT is empty: how long it was.");
        OverAndBack x = new OverAndBack();
        CHECK.due("wipe of nothing", x.wipe(), 0);
        x.write('x');
        CHECK.due("wipe of one", x.wipe(), 1);
        CHECK.due("empty", x.count(9), 0);
        CHECK.due("empty", x.fault(), NONE);
        CHECK.due("wipe again", x.wipe(), 0);
        Check.write(x, "s1;".repeat(66) + "s1");
        CHECK.due("wipe of all", x.wipe(), 200);
        CHECK.due("from the beginning again", x.write('s'), 1);
        CHECK.due("what is laid stays", x.count(1), 12);
        CHECK.says("`int fault()`: FAULT. NONE.");
        OverAndBack y = new OverAndBack();
        CHECK.due("of an empty text", y.fault(), NONE);
        y.write('s');
        CHECK.due("of s", y.fault(), 0);
        y.write('9');
        CHECK.due("of s9", y.fault(), 0);
        y.write(';');
        CHECK.due("of s9;", y.fault(), NONE);
        y.write(';');
        CHECK.due("of s9;;", y.fault(), 3);
        CHECK.due("asked again", y.fault(), 3);
        CHECK.due("the text stays", y.count(9), 4);
        CHECK.due("what is laid stays", y.count(1), 12);
    }

    private static void lay() {
        CHECK.says("`int lay()`: LAID: how many STATIONS; THE PLAN begins ON 0, no goings, nothing UNDONE, KEPT. NO.");
        for (int many = 1; many <= 4; many++) {
            OverAndBack x = new OverAndBack();
            x.begin(1);
            x.over(3, 0);
            x.keep();
            x.keep();
            CHECK.due("no text", x.lay(), NO);
            CHECK.due("nothing changes", x.count(6) + 10 * x.count(7) + 100 * x.count(8), 1 + 20 + 200);
            CHECK.due("nothing changes", x.at(0), 1);
            Check.write(x, "s1;".repeat(many));
            CHECK.due("lay", x.lay(), many);
            CHECK.due("begins on 0", x.at(0), 0);
            CHECK.due("no goings", x.count(6), 0);
            CHECK.due("nothing undone", x.count(7), 0);
            CHECK.due("nothing undone", x.undo(), NO);
            CHECK.due("nothing kept", x.count(8), 0);
            CHECK.due("nothing kept", x.back(), NO);
            CHECK.due("the text stays", x.count(9), 3 * many);
            x.over(3, 0);
            x.keep();
            CHECK.due("lay again", x.lay(), many);
            CHECK.due("no goings again", x.count(6) + x.count(7) + x.count(8), 0);
        }
        laidAnew();
    }

    /** Whatever was laid and asked ahead, an evening is as on a new object. */
    private static void laidAnew() {
        String[] texts = {"s1;", "n60;s9;s0;g3;m1,59,59,9,7;w0,0;w0,0;", "n12;s2;s3;m0,2,4,7,0;m1,5,5,9,1;f0,1,2;w0,1;w1,0;w2,0;w3,1;",
            "n11;s0;s1;g0;b0,0,5;u1,3,9,5;m0,6,6,3,2;w1,0;w3,1;", "n12;s0;g0;m0,3,3,0,0;m0,5,5,0,7;",
            "n12;s1;s2;s0;s3;m2,5,5,1,1;m3,6,6,1,2;m1,11,11,9,2;w3,2;w2,3;"};
        for (String ahead : texts) {
            for (String text : texts) {
                OverAndBack x = CHECK.laid(ahead);
                for (int s = 0; s < 2; s++) {
                    for (int what = 0; what <= 2; what++) {
                        x.fair(s, what);
                        x.most(s, 0, what);
                        x.understand(s, 129, what);
                        x.mean(s, what);
                        x.night(s, 0, what);
                    }
                    x.matters(s);
                    x.begin(s);
                    x.over(3, 1 - s);
                    x.keep();
                }
                x.wipe();
                Check.write(x, text);
                CHECK.due("lay", x.lay() > 0 ? 1 : 0, 1);
                new Questions(x, CHECK.laid(text), CHECK).all();
            }
        }
    }

    private static void minute() {
        CHECK.says("`int minute(int s, int t, int what)`: Of a minute of a STATION, no BREAK of chance coming: "
            + "WORTH (what = 0), FACT (1; NONE), 1 if there is a BREAK (2). BAD.");
        OverAndBack x = greatest();
        OverAndBack y = least();
        takes("minute of", 0, 3, n -> x.minute(n, 59, 0));
        takes("minute at", 0, 59, n -> x.minute(3, n, 0));
        takes("minute what", 0, 2, n -> x.minute(0, 0, n));
        takes("minute of one", 0, 0, n -> y.minute(n, 0, 0));
        takes("minute at one", 0, 0, n -> y.minute(0, n, 0));
        OverAndBack z = CHECK.laid("n3;s1;m0,0,1,9,0;b0,1,1;u0,0,2,10;");
        int[][] due = {{9, 0, 1}, {0, NONE, NONE}, {0, 1, 0}};
        for (int what = 0; what <= 2; what++) {
            for (int t = 0; t < 3; t++) {
                CHECK.due("minute " + t + " " + what, z.minute(0, t, what), due[what][t]);
            }
        }
    }

    private static void known() {
        CHECK.says("`int known(int set)`: KNOWN by a set of FACTS, as bits. BAD.");
        OverAndBack x = CHECK.laid("s1;f0,7,3;");
        takes("known", 0, 255, n -> x.known(n));
        for (int set = 0; set < 128; set++) {
            OverAndBack y = set % 64 == 0 ? CHECK.laid("s1;f0,7,3;") : x;
            CHECK.due("known " + set, y.known(set), set);
        }
        OverAndBack z = CHECK.laid("s1;f0,7,3;");
        for (int set = 128; set < 256; set++) {
            CHECK.due("known " + set, z.known(set), (set & 1) == 1 ? set | 8 : set);
        }
    }

    // ---- watchers

    private static void watcher() {
        CHECK.says("`int watcher(int i, int what)`: Of a WATCHER: KIND (what = 0), STATION (1), all WORTH he SEES (2), "
            + "FACTS he KNOWS in the end, as bits (3), how often he GOES (4), MISSED (5). BAD.");
        OverAndBack x = greatest();
        takes("watcher", 0, 3, n -> x.watcher(n, 0));
        takes("watcher what", 0, 5, n -> x.watcher(3, n));
        OverAndBack one = CHECK.laid("n1;s1;w2,0;");
        takes("one watcher", 0, 0, n -> one.watcher(n, 5));
        OverAndBack none = least();
        CHECK.due("no watcher", none.watcher(0, 0), BAD);
        OverAndBack y = CHECK.laid("n4;s1;s5;m1,2,2,5,7;f7,7,0;b0,1,1;w1,0;");
        int[] due = {1, 0, 1 + 5 + 5, 129, 1, 15 - 11};
        for (int what = 0; what <= 5; what++) {
            CHECK.due("watcher what " + what, y.watcher(0, what), due[what]);
        }
    }

    private static void where() {
        CHECK.says("`int where(int i, int t)`: ON which STATION a WATCHER is in a minute. NONE: he GOES; BAD.");
        OverAndBack x = greatest();
        takes("where", 0, 3, n -> x.where(n, 59));
        takes("where at", 0, 59, n -> x.where(3, n));
        OverAndBack y = CHECK.laid("n3;s0;s1;w3,0;");
        CHECK.due("he goes", y.where(0, 0), NONE);
        CHECK.due("he is there", y.where(0, 1), 1);
        CHECK.due("at the last", y.where(0, 2), 1);
        CHECK.due("behind it", y.where(0, 3), BAD);
        CHECK.due("no watcher", least().where(0, 0), BAD);
    }

    // ---- the plan

    private static void begin() {
        CHECK.says("`int begin(int s)`: THE PLAN begins ON a STATION: ON which it did. BAD.");
        OverAndBack x = greatest();
        takes("begin", 0, 3, n -> x.begin(n));
        CHECK.due("the last that was taken", x.begin(0), 3);
        CHECK.due("and then", x.begin(2), 0);
        CHECK.due("a refused one", x.begin(4), BAD);
        CHECK.due("changes nothing", x.begin(1), 2);
        OverAndBack y = least();
        takes("begin on one", 0, 0, n -> y.begin(n));
    }

    private static void over() {
        CHECK.says("`int over(int t, int s)`: A going more in THE PLAN: how many. BAD; FULL.");
        OverAndBack x = greatest();
        takes("over to", 0, 3, n -> x.over(59, n));
        CHECK.due("how many", x.count(6), 4);
        for (int t : new int[] {-1, 60, Integer.MIN_VALUE, Integer.MAX_VALUE}) {
            CHECK.due("over at " + t, x.over(t, 0), BAD);
        }
        for (int k = 5; k <= 9; k++) {
            CHECK.due("over", x.over(0, 0), k);
        }
        CHECK.due("full", x.over(0, 0), FULL);
        CHECK.due("bad ahead of full", x.over(60, 0), BAD);
        CHECK.due("bad ahead of full", x.over(0, 4), BAD);
        CHECK.due("how many", x.count(6), 9);
        OverAndBack y = least();
        CHECK.due("in one minute", y.over(0, 0), 1);
        CHECK.due("behind it", y.over(1, 0), BAD);
        CHECK.due("to another", y.over(0, 1), BAD);
    }

    private static void undo() {
        CHECK.says("`int undo()`: UNDONE: how many more can be. NO.");
        OverAndBack x = greatest();
        CHECK.due("nothing", x.undo(), NO);
        x.over(5, 1);
        CHECK.due("one", x.undo(), 0);
        CHECK.due("undone", x.count(6), 0);
        CHECK.due("nothing", x.undo(), NO);
        x.begin(3);
        x.over(5, 1);
        CHECK.due("the going", x.undo(), 1);
        CHECK.due("the beginning stays", x.at(0), 3);
        CHECK.due("the beginning", x.undo(), 0);
        CHECK.due("undone", x.at(0), 0);
        CHECK.due("a refused begin is nothing to undo", x.begin(4), BAD);
        CHECK.due("a refused over is nothing to undo", x.over(60, 0), BAD);
        CHECK.due("nothing", x.undo(), NO);
        for (int k = 0; k < 11; k++) {
            x.over(5, 1);
        }
        CHECK.due("eight can be, FULL ones are none", x.undo(), 7);
    }

    private static void judge() {
        CHECK.says("`int judge()`: JUDGED. NONE.");
        OverAndBack x = greatest();
        CHECK.due("no goings", x.judge(), NONE);
        for (int k = 0; k < 8; k++) {
            x.over(k, 1 + k % 2);
        }
        CHECK.due("all can be", x.judge(), NONE);
        x.over(8, 2);
        CHECK.due("the ninth can not", x.judge(), 8);
        x.begin(1);
        CHECK.due("the first can not", x.judge(), 0);
        CHECK.due("judging changes nothing", x.count(6), 9);
        x.undo();
        CHECK.due("as it was", x.judge(), 8);
        x.undo();
        CHECK.due("as it was", x.judge(), NONE);
    }

    private static void plan() {
        CHECK.says("`int plan(int what)`: Of THE PLAN: all WORTH (what = 0), FACTS that are KNOWN, as bits (1), "
            + "goings that are done (2). BAD.");
        OverAndBack x = CHECK.laid("n4;s1;s5;m1,2,2,5,7;f7,7,0;u1,2,2,10;");
        takes("plan", 0, 2, n -> x.plan(n));
        x.over(1, 1);
        x.over(1, 0);
        CHECK.due("worth", x.plan(0), 11);
        CHECK.due("facts", x.plan(1), 129);
        CHECK.due("done", x.plan(2), 1);
        OverAndBack y = least();
        CHECK.due("one minute", y.plan(0), 1);
        CHECK.due("no facts", y.plan(1), 0);
        CHECK.due("none done", y.plan(2), 0);
        CHECK.due("the most", CHECK.laid("n60;s9;").plan(0), 540);
    }

    private static void at() {
        CHECK.says("`int at(int t)`: ON which STATION one is by THE PLAN in a minute. NONE: GOING; BAD.");
        OverAndBack x = greatest();
        x.begin(3);
        x.over(59, 0);
        takes("at", 0, 59, n -> x.at(n));
        CHECK.due("ahead of it", x.at(58), 3);
        CHECK.due("going", x.at(59), NONE);
        CHECK.due("behind the evening", x.at(60), BAD);
        OverAndBack y = least();
        takes("at one", 0, 0, n -> y.at(n));
    }

    // ---- most

    private static void most() {
        CHECK.says("`int most(int s, int t, int what)`: MOST: as much (what = 0), the minute of the first going (1), "
            + "its STATION (2). NONE; BAD.");
        OverAndBack x = greatest();
        takes("most of", 0, 3, n -> x.most(n, 59, 0));
        takes("most at", 0, 59, n -> x.most(3, n, 1));
        takes("most what", 0, 2, n -> x.most(0, 0, n));
        CHECK.due("as much", x.most(0, 0, 0), 59 * 4);
        CHECK.due("the minute", x.most(0, 0, 1), 0);
        CHECK.due("the station", x.most(0, 0, 2), 3);
        CHECK.due("none", x.most(3, 0, 1), NONE);
        CHECK.due("none", x.most(3, 0, 2), NONE);
        CHECK.due("as much of the last", x.most(3, 59, 0), 4);
        OverAndBack y = least();
        CHECK.due("one minute", y.most(0, 0, 0), 1);
        CHECK.due("none", y.most(0, 0, 1), NONE);
        CHECK.due("behind it", y.most(0, 1, 0), BAD);
        CHECK.due("nothing to see is no NONE", CHECK.laid("n1;s0;").most(0, 0, 0), 0);
    }

    private static void understand() {
        CHECK.says("`int understand(int s, int set, int what)`: UNDERSTAND: the fewest goings (what = 0), minutes (1). NONE; BAD.");
        OverAndBack x = greatest();
        takes("understand of", 0, 3, n -> x.understand(n, 255, 0));
        takes("understand what", 0, 1, n -> x.understand(3, 0, n));
        takes("understand set", 0, 255, n -> x.understand(0, n, 1));
        CHECK.due("nothing is told", x.understand(0, 1, 0), NONE);
        CHECK.due("nothing is told", x.understand(0, 1, 1), NONE);
        OverAndBack y = CHECK.laid("n4;s0;s0;m1,3,3,0,7;");
        CHECK.due("goings", y.understand(0, 128, 0), 1);
        CHECK.due("minutes", y.understand(0, 128, 1), 4);
        CHECK.due("no goings", y.understand(1, 128, 0), 0);
        CHECK.due("of nothing", y.understand(1, 0, 0), 0);
        CHECK.due("of nothing", y.understand(1, 0, 1), 0);
    }

    private static void soonest() {
        CHECK.says("`int soonest(int s, int set)`: SOONEST: minutes. NONE; BAD.");
        OverAndBack x = greatest();
        takes("soonest of", 0, 3, n -> x.soonest(n, 0));
        takes("soonest set", 0, 255, n -> x.soonest(3, n));
        CHECK.due("of nothing", x.soonest(0, 0), 0);
        CHECK.due("nothing is told", x.soonest(0, 1), NONE);
        CHECK.due("behind all minutes", CHECK.laid("n60;s0;m0,59,59,0,0;").soonest(0, 1), 60);
        CHECK.due("behind the first", CHECK.laid("n60;s0;m0,0,59,0,0;").soonest(0, 1), 1);
    }

    private static void ask() {
        CHECK.says("`int ask(int knows, int set)`: ASK, as bits. BAD.");
        OverAndBack x = greatest();
        OverAndBack y = greatest();
        takes("ask by", 0, 255, n -> x.ask(n, 255));
        takes("ask for", 0, 255, n -> y.ask(255, n));
        CHECK.due("all", greatest().ask(0, 255), 255);
        CHECK.due("none", greatest().ask(0, 0), 0);
        CHECK.due("the last", greatest().ask(127, 255), 128);
    }

    private static void fair() {
        CHECK.says("`int fair(int k, int what)`: FAIR: as much (what = 0; k 0 alone), the holder of turn k (1), "
            + "what WATCHER k has (2; no WATCHERS: k 0 alone). BAD; NONE: no WATCHERS.");
        OverAndBack x = greatest();
        takes("fair 0", 0, 0, n -> x.fair(n, 0));
        takes("fair 1", 0, 5, n -> x.fair(n, 1));
        takes("fair 2", 0, 3, n -> x.fair(n, 2));
        takes("fair what", 0, 2, n -> x.fair(0, n));
        OverAndBack y = CHECK.laid("n10;s1;w0,0;");
        takes("one turn", 0, 0, n -> y.fair(n, 1));
        takes("one watcher", 0, 0, n -> y.fair(n, 2));
        OverAndBack none = CHECK.laid("n11;s1;");
        takes("no watchers 0", 0, 0, n -> none.fair(n, 0));
        takes("no watchers 1", 0, 1, n -> none.fair(n, 1));
        takes("no watchers 2", 0, 0, n -> none.fair(n, 2));
        takes("no watchers what", 0, 2, n -> none.fair(0, n));
        for (int what = 0; what <= 2; what++) {
            CHECK.due("none " + what, none.fair(0, what), NONE);
        }
        CHECK.due("none of turn 1", none.fair(1, 1), NONE);
    }

    // ---- chances

    private static void mean() {
        CHECK.says("`int mean(int i, int part)`: MEAN of a WATCHER, of THE PLAN (i = -1): above (part = 0), below (1). BAD.");
        OverAndBack x = greatest();
        takes("mean", -1, 3, n -> x.mean(n, 0));
        takes("mean part", 0, 1, n -> x.mean(3, n));
        takes("mean part of the plan", 0, 1, n -> x.mean(-1, n));
        OverAndBack y = CHECK.laid("n3;s1;u0,2,2,1;");
        takes("no watchers", -1, -1, n -> y.mean(n, 1));
        CHECK.due("above", y.mean(-1, 0), 29);
        CHECK.due("below", y.mean(-1, 1), 10);
    }

    private static void sure() {
        CHECK.says("`int sure(int i)`: SURE of a WATCHER, of THE PLAN (i = -1), as bits. BAD.");
        OverAndBack x = greatest();
        takes("sure", -1, 3, n -> x.sure(n));
        OverAndBack y = CHECK.laid("n3;s1;m0,0,2,1,7;u0,1,2,5;");
        takes("no watchers", -1, -1, n -> y.sure(n));
        CHECK.due("as bits", y.sure(-1), 128);
    }

    // ---- what fits

    private static void fits() {
        CHECK.says("`int fits(int set)`: FITS, as bits. BAD.");
        OverAndBack x = greatest();
        takes("fits", 0, 255, n -> x.fits(n));
        CHECK.due("all", x.fits(0), 65535);
        CHECK.due("none", x.fits(255), 0);
    }

    private static void matters() {
        CHECK.says("`int matters(int i)`: MATTERS, as bits. BAD.");
        OverAndBack x = greatest();
        takes("matters", 0, 3, n -> x.matters(n));
        OverAndBack y = CHECK.laid("n9;s0;" + "m0,0,0,0,8;".repeat(8) + "m0,8,8,9,8;w0,0;");
        takes("one watcher", 0, 0, n -> y.matters(n));
        CHECK.due("the ninth", y.matters(0), 256);
        CHECK.due("no watchers", least().matters(0), BAD);
    }

    private static void night() {
        CHECK.says("`int night(int z, int i, int what)`: A NIGHT of a WATCHER: WORTH (what = 0), goings (1). BAD.");
        OverAndBack x = greatest();
        takes("night of", 0, 3, n -> x.night(9999, n, 0));
        takes("night what", 0, 1, n -> x.night(0, 3, n));
        for (int z = 0; z < 10000; z += 400) {
            OverAndBack y = greatest();
            for (int k = z; k < z + 400; k++) {
                CHECK.due("night " + k, y.night(k, 0, 1), 0);
            }
        }
        for (int z : new int[] {-1, 10000, Integer.MIN_VALUE, Integer.MAX_VALUE}) {
            CHECK.due("night " + z, x.night(z, 0, 0), BAD);
        }
        CHECK.due("no watchers", least().night(0, 0, 0), BAD);
    }

    private static void keep() {
        CHECK.says("`int keep()`: KEPT: how many. FULL.");
        OverAndBack x = greatest();
        CHECK.due("one", x.keep(), 1);
        CHECK.due("two", x.keep(), 2);
        CHECK.due("three", x.keep(), FULL);
        CHECK.due("four", x.keep(), FULL);
        CHECK.due("two", x.count(8), 2);
        x.back();
        CHECK.due("two again", x.keep(), 2);
        x.over(1, 1);
        CHECK.due("keeping leaves what can be undone", x.count(7), 1);
    }

    private static void back() {
        CHECK.says("`int back()`: As KEPT last: how many are left; nothing is UNDONE then. NO.");
        OverAndBack x = greatest();
        CHECK.due("nothing", x.back(), NO);
        x.begin(2);
        x.over(4, 1);
        CHECK.due("a refused back leaves what can be undone", x.back(), NO);
        CHECK.due("two", x.count(7), 2);
        x.keep();
        x.begin(3);
        x.keep();
        x.over(7, 2);
        CHECK.due("one is left", x.back(), 1);
        CHECK.due("as kept last", x.at(0), 3);
        CHECK.due("as kept last", x.count(6), 1);
        CHECK.due("nothing undone", x.count(7), 0);
        CHECK.due("nothing undone", x.undo(), NO);
        x.over(8, 3);
        CHECK.due("none is left", x.back(), 0);
        CHECK.due("as kept first", x.at(0), 2);
        CHECK.due("as kept first", x.at(5), 1);
        CHECK.due("nothing undone", x.count(7), 0);
        CHECK.due("nothing", x.back(), NO);
        CHECK.due("it stays", x.at(0), 2);
    }

    private static void count() {
        CHECK.says("`int count(int what)`: How many: 0 STATIONS, 1 minutes, 2 SCENES, 3 BREAKS, 4 BREAKS by chance, 5 WATCHERS, "
            + "6 goings of THE PLAN, 7 that can be UNDONE, 8 KEPT, 9 letters of THE TEXT. BAD.");
        OverAndBack x = CHECK.laid("n13;s0;s0;s0;m0,0,0,0,0;m0,0,0,0,0;b0,0,0;b0,0,0;b0,0,0;b0,0,0;u0,0,0,0;f0,0,0;w0,0;w0,0;");
        takes("count", 0, 9, n -> x.count(n));
        x.over(0, 0);
        x.over(0, 0);
        x.begin(2);
        x.keep();
        int[] due = {3, 13, 2, 4, 1, 2, 2, 3, 1, 89};
        for (int what = 0; what <= 9; what++) {
            CHECK.due("count " + what, x.count(what), due[what]);
        }
    }
}
