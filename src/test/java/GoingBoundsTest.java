/** "Terms", part 2: to SEE, to GO, KNOWN, the WATCHERS, THE PLAN, each sentence for itself, at the bound and one beyond it. */
public final class GoingBoundsTest {
    private static final Check CHECK = new Check();
    private static final int NONE = OverAndBack.NONE;
    private static final int BAD = OverAndBack.BAD;
    private static final int NO = OverAndBack.NO;
    private static final int FULL = OverAndBack.FULL;

    public static void main(String[] args) {
        seeing();
        goingOver();
        goingAtTheEdges();
        goingAgain();
        knowing();
        atMinuteZero();
        onlyWhenNotGoing();
        stays();
        over();
        back();
        best();
        planBegins();
        nineGoings();
        judged();
        leftOut();
        undone();
        eightUndone();
        CHECK.end();
    }

    private static void where(OverAndBack x, int i, int... due) {
        for (int t = 0; t < due.length; t++) {
            CHECK.due("where " + i + " " + t, x.where(i, t), due[t]);
        }
    }

    private static void at(OverAndBack x, int... due) {
        for (int t = 0; t < due.length; t++) {
            CHECK.due("at " + t, x.at(t), due[t]);
        }
    }

    private static void sums(OverAndBack x, int worth, int knows, int done) {
        CHECK.due("plan 0", x.plan(0), worth);
        CHECK.due("plan 1", x.plan(1), knows);
        CHECK.due("plan 2", x.plan(2), done);
    }

    private static void watcher(OverAndBack x, int i, int worth, int knows, int goings) {
        CHECK.due("worth of " + i, x.watcher(i, 2), worth);
        CHECK.due("facts of " + i, x.watcher(i, 3), knows);
        CHECK.due("goings of " + i, x.watcher(i, 4), goings);
    }

    // ---- to see and to go

    private static void seeing() {
        CHECK.says("To be ON a STATION in a minute is to SEE it: its WORTH, its FACT.");
        OverAndBack x = CHECK.laid("n3;s1;s4;m0,0,0,5,0;m0,2,2,7,7;m1,1,1,9,3;w0,0;w0,1;");
        watcher(x, 0, 5 + 1 + 7, 1 | 128, 0);
        watcher(x, 1, 4 + 9 + 4, 8, 0);
        sums(x, 5 + 1 + 7, 1 | 128, 0);
        OverAndBack one = CHECK.laid("n1;s0;m0,0,0,9,7;m0,1,1,9,6;w0,0;");
        watcher(one, 0, 9, 128, 0);
        sums(one, 9, 128, 0);
    }

    private static void goingOver() {
        CHECK.says("To GO over to another one at a minute is to SEE nothing in that one and the following ones, "
            + "G in all (none, if G is 0), and to be ON it from then on;");
        for (int going = 0; going <= 3; going++) {
            // Each minute of station 1 tells a fact of its own, so that it shows which ones are seen.
            String scenes = "m1,2,2,2,2;m1,3,3,2,3;m1,4,4,2,4;m1,5,5,2,5;m1,6,6,2,6;";
            OverAndBack x = CHECK.laid("n7;s1;s2;g" + going + ";" + scenes + "b0,2,2;w1,0;");
            CHECK.due("over", x.over(2, 1), 1);
            int facts = 124 & ~((1 << 2 + going) - 1);
            for (int t = 0; t < 7; t++) {
                int due = t < 2 ? 0 : t < 2 + going ? NONE : 1;
                CHECK.due("going " + going + " at " + t, x.at(t), due);
                CHECK.due("going " + going + " where " + t, x.where(0, t), due);
            }
            sums(x, 2 + 2 * (5 - going), facts, 1);
            watcher(x, 0, 2 + 2 * (5 - going), facts, 1);
        }
    }

    private static void goingAtTheEdges() {
        CHECK.says("that one and the following ones, G in all");
        for (int going = 0; going <= 3; going++) {
            OverAndBack first = CHECK.laid("n5;s1;s2;g" + going + ";");
            first.over(0, 1);
            OverAndBack last = CHECK.laid("n5;s1;s2;g" + going + ";");
            last.over(4, 1);
            OverAndBack near = CHECK.laid("n5;s1;s2;g" + going + ";");
            near.over(3, 1);
            for (int t = 0; t < 5; t++) {
                CHECK.due("from minute 0, " + going, first.at(t), t < going ? NONE : 1);
                CHECK.due("at the last, " + going, last.at(t), t < 4 ? 0 : going == 0 ? 1 : NONE);
                CHECK.due("near the last, " + going, near.at(t), t < 3 ? 0 : t < 3 + going ? NONE : 1);
            }
            sums(first, 2 * (5 - going), 0, 1);
            sums(last, 4 + (going == 0 ? 2 : 0), 0, 1);
            sums(near, 3 + 2 * Math.max(0, 2 - going), 0, 1);
            CHECK.due("behind the evening none is", last.at(5), BAD);
        }
    }

    private static void goingAgain() {
        CHECK.says("one can GO again then, at the next minute at the earliest.");
        for (int going = 0; going <= 3; going++) {
            for (int later = 0; later <= 4; later++) {
                OverAndBack x = CHECK.laid("n12;s1;s2;g" + going + ";");
                x.over(2, 1);
                x.over(2 + later, 0);
                boolean can = later >= Math.max(1, going);
                CHECK.due("again " + later + " later, " + going, x.judge(), can ? NONE : 1);
                CHECK.due("done", x.plan(2), can ? 2 : 1);
                CHECK.due("on", x.at(11), can ? 0 : 1);
            }
        }
        int[] goings = {4, 4, 2, 2};
        int[] worth = {36, 0, 9, 0};
        for (int going = 0; going <= 3; going++) {
            OverAndBack x = CHECK.laid("n4;s0;s0;g" + going + ";m1,0,0,9,8;m0,1,1,9,8;m1,2,2,9,8;m0,3,3,9,8;w3,0;");
            watcher(x, 0, worth[going], 0, goings[going]);
        }
    }

    private static void knowing() {
        CHECK.says("KNOWN are FACTS seen, and all that follow, again and again.");
        OverAndBack x = CHECK.laid("n2;s0;m0,0,0,0,0;f5,5,6;f4,4,5;f3,3,4;f2,2,3;f1,1,2;f0,0,1;w0,0;");
        for (int fact = 0; fact < 8; fact++) {
            CHECK.due("known of " + fact, x.known(1 << fact), fact == 7 ? 128 : 127 & ~((1 << fact) - 1));
        }
        CHECK.due("known of none", x.known(0), 0);
        CHECK.due("known of all", x.known(255), 255);
        CHECK.due("the watcher", x.watcher(0, 3), 127);
        CHECK.due("the plan", x.plan(1), 127);
        CHECK.due("sure", x.sure(0), 127);
        OverAndBack round = CHECK.laid("s0;f0,0,1;f1,1,0;");
        CHECK.due("round", round.known(1), 3);
        CHECK.due("round", round.known(2), 3);
        OverAndBack pairs = CHECK.laid("s0;f0,1,2;f2,3,4;f4,5,6;f6,6,7;");
        CHECK.due("all of the pairs", pairs.known(1 | 2 | 8 | 32), 255);
        CHECK.due("one is wanting", pairs.known(1 | 8 | 32), 1 | 8 | 32);
        CHECK.due("the last is wanting", pairs.known(1 | 2 | 8), 1 | 2 | 4 | 8 | 16);
    }

    // ---- watchers

    private static void atMinuteZero() {
        CHECK.says("A WATCHER is ON his STATION at minute 0.");
        for (int kind = 0; kind <= 3; kind++) {
            for (int s = 0; s < 4; s++) {
                OverAndBack x = CHECK.laid("n2;s1;s1;s1;s1;w" + kind + "," + s + ";");
                where(x, 0, s, s, BAD);
                CHECK.due("goings", x.watcher(0, 4), 0);
                OverAndBack one = CHECK.laid("n1;s1;s1;s1;s1;w" + kind + "," + s + ";");
                where(one, 0, s, BAD);
            }
        }
        OverAndBack x = CHECK.laid("n1;g0;s1;s1;b0,0,0;w1,0;");
        where(x, 0, 1, BAD);
        CHECK.due("who goes at minute 0 comes from there", x.watcher(0, 4), 1);
    }

    private static void onlyWhenNotGoing() {
        CHECK.says("At each minute at which he is not GOING he wants to be at:");
        // The breaks of station 1 while he is going there are none of his.
        OverAndBack x = CHECK.laid("n7;s1;s2;g3;b0,1,2;b1,1,3;b1,5,5;w1,0;");
        where(x, 0, 0, 0, 0, 0, 0, 0, 0, BAD);
        OverAndBack y = CHECK.laid("n9;s1;s2;s3;g3;b0,1,2;b1,2,3;b1,4,4;w1,0;");
        where(y, 0, 0, NONE, NONE, NONE, NONE, NONE, NONE, 2, 2, BAD);
        OverAndBack z = CHECK.laid("n9;s1;s2;s3;g3;b0,1,2;b1,2,3;b1,5,5;w1,0;");
        where(z, 0, 0, NONE, NONE, NONE, 1, NONE, NONE, NONE, 2, BAD);
        CHECK.due("goings", y.watcher(0, 4), 2);
        CHECK.due("goings", z.watcher(0, 4), 2);
    }

    private static void stays() {
        CHECK.says("STAYS where he is;");
        OverAndBack x = CHECK.laid("n4;g0;s1;s9;b0,0,3;w0,0;");
        where(x, 0, 0, 0, 0, 0, BAD);
        watcher(x, 0, 0, 0, 0);
        OverAndBack last = CHECK.laid("n4;g0;s9;s9;s9;s0;b3,0,3;w0,3;");
        where(last, 0, 3, 3, 3, 3, BAD);
        watcher(last, 0, 0, 0, 0);
    }

    private static void over() {
        CHECK.says("OVER, if there is a BREAK where he is, the next STATION (by number, round) on which there is none "
            + "(where he is, if all have), else where he is;");
        // All 16 ways in which four stations have breaks at minute 1, from each station.
        for (int broken = 0; broken < 16; broken++) {
            for (int s = 0; s < 4; s++) {
                StringBuilder text = new StringBuilder("n3;g0;s1;s9;s1;s9;w1," + s + ";");
                for (int b = 0; b < 4; b++) {
                    text.append((broken >> b & 1) == 1 ? "b" + b + ",1,1;" : "");
                }
                int goal = s;
                for (int k = 1; k <= 4 && (broken >> goal & 1) == 1; k++) {
                    goal = (s + k) % 4;
                }
                OverAndBack x = CHECK.laid(text.toString());
                where(x, 0, s, goal, goal, BAD);
                CHECK.due("goings", x.watcher(0, 4), goal == s ? 0 : 1);
            }
        }
        where(CHECK.laid("n3;g0;s1;b0,1,1;w1,0;"), 0, 0, 0, 0, BAD);
        where(CHECK.laid("n3;g0;s1;s1;b1,1,1;w1,1;"), 0, 1, 0, 0, BAD);
        where(CHECK.laid("n3;g0;s0;s9;w1,0;"), 0, 0, 0, 0, BAD);
    }

    private static void back() {
        CHECK.says("BACK his own STATION, if there is no BREAK on it, else as OVER;");
        OverAndBack x = CHECK.laid("n8;g0;s1;s9;s9;b0,1,4;b1,3,3;w2,0;");
        where(x, 0, 0, 1, 1, 2, 2, 0, 0, 0, BAD);
        watcher(x, 0, 1 + 9 * 4 + 3, 0, 3);
        OverAndBack all = CHECK.laid("n5;g0;s1;s1;b0,1,3;b1,2,2;w2,0;");
        where(all, 0, 0, 1, 1, 1, 0, BAD);
        OverAndBack alone = CHECK.laid("n3;g0;s1;b0,0,1;w2,0;");
        where(alone, 0, 0, 0, 0, BAD);
        CHECK.due("goings", alone.watcher(0, 4), 0);
        OverAndBack round = CHECK.laid("n4;g0;s1;s1;s1;b2,1,2;b0,2,2;w2,2;");
        where(round, 0, 2, 0, 1, 2, BAD);
        OverAndBack slow = CHECK.laid("n8;g2;s1;s1;b0,1,1;w2,0;");
        where(slow, 0, 0, NONE, NONE, NONE, NONE, 0, 0, 0, BAD);
        CHECK.due("goings", slow.watcher(0, 4), 2);
    }

    private static void best() {
        CHECK.says("BEST the STATION of greatest WORTH in that minute, of several the one where he is, else the lowest.");
        // All ways of worth 0 to 2 of four stations, from each station.
        for (int worths = 0; worths < 81; worths++) {
            int[] worth = {worths % 3, worths / 3 % 3, worths / 9 % 3, worths / 27};
            int greatest = Math.max(Math.max(worth[0], worth[1]), Math.max(worth[2], worth[3]));
            for (int s = 0; s < 4; s++) {
                StringBuilder text = new StringBuilder("n3;g0;s0;s0;s0;s0;w3," + s + ";");
                for (int b = 0; b < 4; b++) {
                    text.append("m").append(b).append(",1,1,").append(worth[b]).append(",8;");
                }
                int goal = s;
                for (int b = 3; b >= 0 && worth[s] != greatest; b--) {
                    goal = worth[b] == greatest ? b : goal;
                }
                where(CHECK.laid(text.toString()), 0, s, goal, goal, BAD);
            }
        }
        CHECK.says("If that is another one, he GOES.");
        OverAndBack x = CHECK.laid("n4;s1;s9;w3,0;w3,1;");
        where(x, 0, NONE, 1, 1, 1, BAD);
        where(x, 1, 1, 1, 1, 1, BAD);
        CHECK.due("he goes", x.watcher(0, 4), 1);
        CHECK.due("he does not", x.watcher(1, 4), 0);
        OverAndBack broken = CHECK.laid("n3;g0;s0;s9;b1,1,1;w3,1;");
        where(broken, 0, 1, 1, 1, BAD);
        OverAndBack one = CHECK.laid("n3;g0;s1;s9;b1,1,1;w3,1;");
        where(one, 0, 1, 0, 1, BAD);
    }

    // ---- the plan

    private static void planBegins() {
        CHECK.says("THE PLAN begins ON a STATION (0 at first);");
        OverAndBack x = CHECK.laid("n2;s1;s2;s3;s4;");
        for (int s = 0; s < 4; s++) {
            CHECK.due("begin", x.begin(s), Math.max(0, s - 1));
            at(x, s, s, BAD);
            sums(x, 2 * (s + 1), 0, 0);
        }
        CHECK.due("none beyond", x.begin(4), BAD);
        at(x, 3, 3, BAD);
        CHECK.due("0 at first", new OverAndBack().at(0), 0);
        CHECK.due("0 at first", new OverAndBack().begin(1), 0);
        x.lay();
        at(x, 0, 0, BAD);
    }

    private static void nineGoings() {
        CHECK.says("told goings (9 at most, each a minute and a STATION) are done as told.");
        OverAndBack x = CHECK.laid("n20;g0;s0;s1;");
        for (int k = 0; k < 9; k++) {
            CHECK.due("over", x.over(2 * k, 1 - k % 2), k + 1);
        }
        for (int t = 0; t < 20; t++) {
            CHECK.due("at " + t, x.at(t), t < 18 ? 1 - t / 2 % 2 : 1);
        }
        sums(x, 12, 0, 9);
        CHECK.due("judge", x.judge(), NONE);
        CHECK.due("a tenth", x.over(19, 0), FULL);
        CHECK.due("a tenth that could not be", x.over(0, 0), FULL);
        CHECK.due("goings", x.count(6), 9);
        sums(x, 12, 0, 9);
        x.undo();
        CHECK.due("a ninth again", x.over(18, 1), 9);
        CHECK.due("a tenth again", x.over(18, 1), FULL);
    }

    private static OverAndBack told(String text, int... goings) {
        OverAndBack x = CHECK.laid(text);
        for (int k = 0; k + 1 < goings.length; k += 2) {
            x.over(goings[k], goings[k + 1]);
        }
        return x;
    }

    private static void judged() {
        CHECK.says("JUDGED, one behind the other: the first that can not be: "
            + "at a minute that is not behind that of the last one that was done,");
        String quick = "n9;g0;s1;s1;s1;";
        CHECK.due("behind", told(quick, 4, 1, 5, 2).judge(), NONE);
        CHECK.due("in the same minute", told(quick, 4, 1, 4, 2).judge(), 1);
        CHECK.due("ahead of it", told(quick, 4, 1, 3, 2).judge(), 1);
        CHECK.due("at minute 0", told(quick, 0, 1).judge(), NONE);
        CHECK.due("twice at minute 0", told(quick, 0, 1, 0, 2).judge(), 1);
        CHECK.due("at the last minute", told(quick, 8, 1).judge(), NONE);
        CHECK.due("the ninth", told(quick, 0, 1, 1, 0, 2, 1, 3, 0, 4, 1, 5, 0, 6, 1, 7, 0, 7, 2).judge(), 8);
        CHECK.due("the first of several", told(quick, 4, 1, 3, 2, 2, 2, 1, 1).judge(), 1);
        CHECK.due("behind what was done, not what was told", told(quick, 4, 0, 3, 1).judge(), 0);
        CHECK.due("so it is done", told(quick, 4, 0, 3, 1).at(3), 1);
        CHECK.says("or at which one is still GOING,");
        for (int going = 1; going <= 3; going++) {
            String slow = "n9;g" + going + ";s1;s1;s1;";
            CHECK.due("still going by " + going, told(slow, 2, 1, 1 + going, 2).judge(), 1);
            CHECK.due("there by " + going, told(slow, 2, 1, 2 + going, 2).judge(), NONE);
            CHECK.due("back while still going", told(slow, 2, 1, 1 + going, 0).judge(), 1);
        }
        CHECK.says("or to where one is then; none.");
        CHECK.due("to where it begins", told(quick, 0, 0).judge(), 0);
        CHECK.due("to where one went", told(quick, 2, 1, 5, 1).judge(), 1);
        CHECK.due("back", told(quick, 2, 1, 5, 0).judge(), NONE);
        OverAndBack x = told(quick, 2, 1);
        x.begin(1);
        CHECK.due("by where it begins", x.judge(), 0);
        CHECK.due("no goings", CHECK.laid(quick).judge(), NONE);
    }

    private static void leftOut() {
        CHECK.says("What can not be is left out.");
        OverAndBack x = told("n8;g2;s1;s2;s4;", 1, 1, 2, 2, 3, 1, 4, 2);
        at(x, 0, NONE, NONE, 1, NONE, NONE, 2, 2, BAD);
        sums(x, 1 + 2 + 8, 0, 2);
        CHECK.due("told are all", x.count(6), 4);
        OverAndBack y = told("n8;g2;s1;s2;s4;", 1, 1, 2, 2);
        at(y, 0, NONE, NONE, 1, 1, 1, 1, 1, BAD);
        sums(y, 1 + 10, 0, 1);
        OverAndBack none = told("n8;s1;s2;", 0, 0, 3, 0, 7, 0);
        at(none, 0, 0, 0, 0, 0, 0, 0, 0, BAD);
        sums(none, 8, 0, 0);
        OverAndBack nine = told("n8;s1;s2;", 0, 0, 0, 0, 0, 0, 0, 0, 0, 0, 0, 0, 0, 0, 0, 0, 7, 1);
        sums(nine, 7, 0, 1);
    }

    private static void undone() {
        CHECK.says("UNDONE is the latest going, or that it begins elsewhere");
        OverAndBack x = told("n4;g0;s1;s2;s3;", 1, 1);
        x.begin(2);
        x.over(3, 0);
        CHECK.due("a going", x.undo(), 2);
        at(x, 2, 1, 1, 1, BAD);
        CHECK.due("that it begins elsewhere", x.undo(), 1);
        at(x, 0, 1, 1, 1, BAD);
        CHECK.due("a going", x.undo(), 0);
        at(x, 0, 0, 0, 0, BAD);
        CHECK.due("nothing more", x.undo(), NO);
        at(x, 0, 0, 0, 0, BAD);
        OverAndBack here = CHECK.laid("n4;s1;s2;");
        CHECK.due("where it begins already", here.begin(0), 0);
        CHECK.due("is not elsewhere", here.count(7), 0);
        here.begin(1);
        CHECK.due("where it begins already", here.begin(1), 1);
        CHECK.due("is not elsewhere", here.count(7), 1);
        CHECK.due("undo", here.undo(), 0);
        CHECK.due("begins on", here.at(0), 0);
        OverAndBack left = told("n4;s1;s2;", 2, 1, 2, 1);
        CHECK.due("a going that can not be is one", left.undo(), 1);
        CHECK.due("done", left.plan(2), 1);
    }

    private static void eightUndone() {
        CHECK.says("(the last 8 can be)");
        OverAndBack x = CHECK.laid("n20;g0;s1;s2;");
        for (int k = 0; k < 9; k++) {
            CHECK.due("can be", x.count(7), Math.min(8, k));
            x.over(2 * k, 1 - k % 2);
        }
        CHECK.due("eight of nine", x.count(7), 8);
        for (int k = 7; k >= 0; k--) {
            CHECK.due("undo", x.undo(), k);
            CHECK.due("goings", x.count(6), k + 1);
        }
        CHECK.due("no ninth", x.undo(), NO);
        CHECK.due("the first going stays", x.count(6), 1);
        CHECK.due("the first going stays", x.at(0), 1);
        OverAndBack y = CHECK.laid("n20;s1;s2;s3;");
        y.begin(2);
        for (int k = 0; k < 7; k++) {
            y.over(k, 1);
        }
        CHECK.due("eight of eight", y.count(7), 8);
        y.over(9, 0);
        CHECK.due("still eight", y.count(7), 8);
        for (int k = 7; k >= 0; k--) {
            CHECK.due("undo", y.undo(), k);
        }
        CHECK.due("the oldest is given up", y.at(0), 2);
        CHECK.due("the oldest is given up", y.undo(), NO);
        OverAndBack z = CHECK.laid("n20;s1;s2;s3;");
        z.begin(2);
        for (int k = 0; k < 7; k++) {
            z.over(k, 1);
        }
        for (int k = 7; k >= 0; k--) {
            CHECK.due("undo", z.undo(), k);
        }
        CHECK.due("the eighth is undone too", z.at(0), 0);
        z.lay();
        z.over(1, 1);
        CHECK.due("one anew", z.count(7), 1);
        CHECK.due("undo anew", z.undo(), 0);
        eightOfTurns();
    }

    /** Goings and beginnings by turns, by twos and by threes: the last eight are undone in their order, each as what it was. */
    private static void eightOfTurns() {
        for (int pattern = 0; pattern < 64; pattern++) {
            OverAndBack x = CHECK.laid("n20;g0;s1;s2;s3;s4;");
            int[] goings = new int[15];
            int[] begins = new int[15];
            int many = 0;
            for (int k = 0; k < 14; k++) {
                boolean goes = (pattern >> k % 6 & 1) == 1 && goings[many] < 9;
                goings[many + 1] = goings[many] + (goes ? 1 : 0);
                begins[many + 1] = goes ? begins[many] : (begins[many] + 1) % 4;
                many++;
                if (goes) {
                    x.over(10, 1);
                } else {
                    x.begin(begins[many]);
                }
            }
            for (int k = 7; k >= 0; k--) {
                many--;
                CHECK.due("undo of pattern " + pattern, x.undo(), k);
                CHECK.due("goings of pattern " + pattern, x.count(6), goings[many]);
                CHECK.due("beginning of pattern " + pattern, x.at(0), begins[many]);
            }
            CHECK.due("no ninth of pattern " + pattern, x.undo(), NO);
        }
    }
}
