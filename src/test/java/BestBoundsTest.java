/** "Terms", part 3: MOST, MISSED, UNDERSTAND, SOONEST, ASK, BOX, FAIR, each sentence for itself, at the bound and one beyond it. */
public final class BestBoundsTest {
    private static final Check CHECK = new Check();
    private static final int NONE = OverAndBack.NONE;
    private static final int BAD = OverAndBack.BAD;

    public static void main(String[] args) {
        most();
        firstGoing();
        severalGoings();
        missed();
        understandTheFewest();
        understandTheMinutes();
        soonest();
        ask();
        turns();
        changes();
        shares();
        fair();
        noWatchers();
        CHECK.end();
    }

    private static void most(OverAndBack x, int s, int t, int... due) {
        for (int what = 0; what < due.length; what++) {
            CHECK.due("most " + s + " " + t + " " + what, x.most(s, t, what), due[what]);
        }
    }

    private static void understand(OverAndBack x, int s, int set, int goings, int minutes, int soonest) {
        CHECK.due("understand " + s + " " + set + " 0", x.understand(s, set, 0), goings);
        CHECK.due("understand " + s + " " + set + " 1", x.understand(s, set, 1), minutes);
        CHECK.due("soonest " + s + " " + set, x.soonest(s, set), soonest);
    }

    private static void fair(OverAndBack x, int what, int... due) {
        for (int k = 0; k < due.length; k++) {
            CHECK.due("fair " + k + " " + what, x.fair(k, what), due[k]);
        }
    }

    // ---- most

    private static void most() {
        CHECK.says("MOST for who is ON a STATION at minute t (and SEES it, if he does not GO at once): "
            + "the greatest WORTH of all minutes from t on that can be seen by GOING at whatever minutes;");
        for (int going = 0; going <= 3; going++) {
            OverAndBack x = CHECK.laid("n5;s1;s9;g" + going + ";");
            for (int t = 0; t < 5; t++) {
                int stays = 5 - t;
                int goes = 9 * Math.max(0, 5 - t - going);
                most(x, 0, t, Math.max(stays, goes), goes > stays ? t : NONE, goes > stays ? 1 : NONE);
                most(x, 1, t, 9 * (5 - t), NONE, NONE);
            }
            CHECK.due("behind the evening", x.most(0, 5, 0), BAD);
            CHECK.due("ahead of it", x.most(0, -1, 0), BAD);
        }
        most(CHECK.laid("n60;s0;s9;g3;"), 0, 0, 513, 0, 1);
        most(CHECK.laid("n60;s9;"), 0, 0, 540, NONE, NONE);
        most(CHECK.laid("n1;s0;s9;g1;"), 0, 0, 0, NONE, NONE);
        most(CHECK.laid("n1;s0;s9;g0;"), 0, 0, 9, 0, 1);
        // To and fro at each minute: as many goings as one likes.
        StringBuilder text = new StringBuilder("n9;s0;s0;g0;");
        for (int t = 0; t < 9; t++) {
            text.append("m").append(1 - t % 2).append(",").append(t).append(",").append(t).append(",5,8;");
        }
        most(CHECK.laid(text.toString()), 0, 0, 45, 0, 1);
        most(CHECK.laid(text.toString()), 1, 0, 45, 1, 0);
    }

    private static void firstGoing() {
        CHECK.says("the first going of such an evening: of all such evenings that in which it is latest (none, if one needs none),");
        OverAndBack x = CHECK.laid("n8;s2;s2;m1,5,5,9,8;b0,6,7;");
        // From minute 2 on: three minutes of 2, going at 4, then 9, 2, 2 on station 1.
        most(x, 0, 2, 4 + 13, 4, 1);
        most(x, 0, 4, 13, 4, 1);
        most(x, 0, 5, 4, 6, 1);
        most(x, 0, 6, 2, 6, 1);
        most(x, 0, 7, 0, NONE, NONE);
        most(x, 1, 0, 2 * 5 + 9 + 4, NONE, NONE);
        most(CHECK.laid("n4;s0;s0;g0;"), 0, 0, 0, NONE, NONE);
        most(CHECK.laid("n4;s3;s3;g0;"), 1, 3, 3, NONE, NONE);
        most(CHECK.laid("n4;s3;"), 0, 3, 3, NONE, NONE);
        // The going loses nothing from minute 0 to 3: the latest is the last of them.
        most(CHECK.laid("n6;s0;s0;g1;m1,4,5,1,8;"), 0, 0, 2, 3, 1);
        most(CHECK.laid("n6;s0;s0;g0;m1,4,5,1,8;"), 0, 0, 2, 4, 1);
        most(CHECK.laid("n6;s0;s0;g3;m1,4,5,1,8;"), 0, 0, 2, 1, 1);
        most(CHECK.laid("n6;s0;s0;g0;m1,5,5,1,8;"), 0, 5, 1, 5, 1);
    }

    private static void severalGoings() {
        CHECK.says("of several to the lowest STATION.");
        most(CHECK.laid("n4;s0;s1;s1;s1;g1;"), 0, 0, 3, 0, 1);
        most(CHECK.laid("n4;s1;s0;s1;s1;g1;"), 1, 0, 3, 0, 0);
        most(CHECK.laid("n4;s0;s0;s1;s1;g1;"), 0, 0, 3, 0, 2);
        most(CHECK.laid("n4;s0;s0;s0;s1;g1;"), 0, 0, 3, 0, 3);
        most(CHECK.laid("n4;s0;s0;s0;s1;g0;"), 3, 0, 4, NONE, NONE);
        // The latest comes ahead of the lowest: to 2 at minute 2, though to 1 at minute 1 is worth as much.
        most(CHECK.laid("n4;s0;s0;s0;g1;m1,2,2,5,8;m2,3,3,5,8;"), 0, 0, 5, 2, 2);
    }

    private static void missed() {
        CHECK.says("MISSED by a WATCHER: MOST from his STATION at minute 0, less what he SEES.");
        OverAndBack x = CHECK.laid("n5;s1;s9;g1;w0,0;w3,0;w0,1;w1,0;");
        int[] due = {36 - 5, 0, 0, 36 - 5};
        for (int i = 0; i < 4; i++) {
            CHECK.due("missed by " + i, x.watcher(i, 5), due[i]);
        }
        CHECK.due("at the most", CHECK.laid("n60;s0;s9;g0;w0,0;").watcher(0, 5), 540);
        CHECK.due("at the least", CHECK.laid("n60;s9;s0;w0,0;").watcher(0, 5), 0);
        CHECK.due("breaks by chance do not come", CHECK.laid("n5;s9;u0,0,4,10;w0,0;").watcher(0, 5), 0);
    }

    // ---- understand

    /** FACT k is told in one minute on the STATION where one is not, so that each one needs a going. */
    private static String alternating(int going, int facts) {
        StringBuilder text = new StringBuilder("n60;s0;s0;g" + going + ";");
        for (int k = 0; k < facts; k++) {
            int t = (k + 1) * (going + 1) - 1;
            text.append('m').append(1 - k % 2).append(',').append(t).append(',').append(t).append(",0,").append(k).append(';');
        }
        return text.toString();
    }

    private static void understandTheFewest() {
        CHECK.says("UNDERSTAND: from a STATION at minute 0, the fewest goings (0 to 6) by which "
            + "all of a set of FACTS (bits) are KNOWN behind the EVENING;");
        for (int going = 0; going <= 3; going++) {
            OverAndBack x = CHECK.laid(alternating(going, 8));
            for (int many = 1; many <= 6; many++) {
                int minutes = many * (going + 1);
                understand(x, 0, (1 << many) - 1, many, minutes, minutes);
            }
            understand(x, 0, 127, NONE, NONE, NONE);
            understand(x, 0, 255, NONE, NONE, NONE);
            int seven = 7 * (going + 1);
            understand(x, 1, 127, 6, seven, seven);
            understand(x, 1, 255, NONE, NONE, NONE);
            understand(x, 1, 85, 0, seven, seven);
        }
        OverAndBack last = CHECK.laid("n5;s0;s0;m0,4,4,0,0;m1,4,4,0,1;m0,5,5,0,2;g0;");
        understand(last, 0, 1, 0, 5, 5);
        understand(last, 0, 2, 1, 5, 5);
        understand(last, 0, 3, NONE, NONE, NONE);
        understand(last, 0, 4, NONE, NONE, NONE);
        for (int going = 0; going <= 3; going++) {
            OverAndBack near = CHECK.laid("n4;s0;s0;m1,2,2,0,0;g" + going + ";");
            understand(near, 0, 1, going <= 2 ? 1 : NONE, going <= 2 ? 3 : NONE, going <= 2 ? 3 : NONE);
        }
    }

    private static void understandTheMinutes() {
        CHECK.says("by just so many, behind how many minutes they are KNOWN at the soonest (0: the empty set); none.");
        OverAndBack x = CHECK.laid("n60;s0;s0;m0,59,59,0,0;m1,0,59,0,0;");
        understand(x, 0, 1, 0, 60, 2);
        understand(x, 1, 1, 0, 1, 1);
        for (int s = 0; s < 2; s++) {
            understand(x, s, 0, 0, 0, 0);
        }
        understand(CHECK.laid("n1;s0;"), 0, 0, 0, 0, 0);
        understand(CHECK.laid("n1;s0;"), 0, 1, NONE, NONE, NONE);
        understand(CHECK.laid("n1;s0;m0,0,0,0,7;"), 0, 128, 0, 1, 1);
        understand(CHECK.laid("n1;s0;m0,0,0,0,7;f7,7,0;"), 0, 129, 0, 1, 1);
        understand(CHECK.laid("n1;s0;m0,0,0,0,7;f7,7,0;"), 0, 2, NONE, NONE, NONE);
        // By one going behind 9 minutes, by two behind 4.
        OverAndBack y = CHECK.laid("n9;s0;s0;s0;g0;m1,1,1,0,0;m1,8,8,0,1;m2,3,3,0,1;");
        understand(y, 0, 3, 1, 9, 4);
    }

    private static void soonest() {
        CHECK.says("SOONEST: the same by as many as one likes (to 6).");
        // The sixth going shows FACT 5; FACT 6 is there by a seventh at once, or later without.
        String six = alternating(0, 6);
        OverAndBack x = CHECK.laid(six + "m1,6,6,0,6;m0,8,8,0,6;");
        understand(x, 0, 63, 6, 6, 6);
        understand(x, 0, 127, 6, 9, 9);
        OverAndBack y = CHECK.laid(six + "m1,6,6,0,6;");
        understand(y, 0, 127, NONE, NONE, NONE);
        // By six goings sooner than by fewer.
        OverAndBack z = CHECK.laid(alternating(0, 6) + "m1,10,10,0,5;");
        understand(z, 0, 63, 5, 11, 6);
    }

    private static void ask() {
        CHECK.says("ASK: who KNOWS a set of FACTS (and what follows) asks for others: of sets of FACTS he does not KNOW (bits) "
            + "by which, told him, he KNOWS a second set, that of fewest, of several the lowest.");
        OverAndBack plain = CHECK.laid("s0;");
        for (int set : new int[] {0, 1, 2, 128, 254, 255}) {
            CHECK.due("ask all of " + set, plain.ask(0, set), set);
            CHECK.due("ask none of " + set, plain.ask(set, set), 0);
            CHECK.due("ask none of " + set, plain.ask(255, set), 0);
            CHECK.due("ask the rest of " + set, plain.ask(set, 255), 255 & ~set);
        }
        OverAndBack x = CHECK.laid("s0;f0,0,7;f1,1,7;f2,3,6;f7,7,5;");
        CHECK.due("what follows is known", x.ask(1, 160), 0);
        CHECK.due("of several the lowest", x.ask(0, 160), 1);
        CHECK.due("one is fewer than two", x.ask(0, 64), 64);
        CHECK.due("one of two is there", x.ask(4, 64), 8);
        CHECK.due("one for two", x.ask(8, 68), 4);
        CHECK.due("lowest of pairs", x.ask(0, 192), 65);
        CHECK.due("what he knows is not asked for", x.ask(2, 32), 0);
    }

    // ---- the box

    private static void turns() {
        CHECK.says("BOX: WATCHERS hold it by turns, 10 minutes each (the last turn is shorter, if it has to be): "
            + "in his turn the holder's STATION is on;");
        for (int minutes = 1; minutes <= 60; minutes++) {
            OverAndBack x = CHECK.laid("s1;w0,0;n" + minutes + ";");
            int many = (minutes + 9) / 10;
            for (int k = 0; k < 8; k++) {
                CHECK.due("turn " + k + " of " + minutes, x.fair(k, 1), k < many ? 0 : BAD);
            }
            CHECK.due("all of " + minutes, x.fair(0, 0), minutes);
        }
        // Worth in minutes 9 and 10 alone: those are of two turns.
        OverAndBack edge = CHECK.laid("n20;g0;s0;s0;m0,9,9,5,8;m1,10,10,5,8;w0,0;w0,1;");
        fair(edge, 0, 5, BAD);
        fair(edge, 1, 0, 1, BAD);
        OverAndBack one = CHECK.laid("n20;g0;s0;s0;m0,8,8,5,8;m1,9,9,5,8;w0,0;w0,1;");
        fair(one, 0, 0, BAD);
        OverAndBack shorter = CHECK.laid("n11;g0;s1;s1;w0,0;w0,1;");
        fair(shorter, 0, 1, BAD);
        fair(shorter, 1, 0, 1, BAD);
        fair(shorter, 2, 10, 1, BAD);
    }

    private static void changes() {
        CHECK.says("where another one is on than in the turn ahead, G minutes at the beginning of the turn show nothing.");
        for (int going = 0; going <= 3; going++) {
            OverAndBack x = CHECK.laid("n20;s1;s1;w0,0;w0,1;g" + going + ";");
            fair(x, 0, 10 - going, BAD);
            fair(x, 1, 0, 1, BAD);
            fair(x, 2, 10, 10 - going, BAD);
            // The last turn is of two minutes: all of them show nothing, if G is 2 or more.
            OverAndBack two = CHECK.laid("n12;s1;s1;w0,0;w0,1;g" + going + ";");
            int rest = Math.max(0, 2 - going);
            fair(two, 0, rest, BAD);
            fair(two, 1, 0, rest == 0 ? 0 : 1, BAD);
            fair(two, 2, rest == 0 ? 12 : 10, rest, BAD);
            // The holders change, the STATION does not.
            OverAndBack same = CHECK.laid("n20;s1;s1;w0,1;w0,1;g" + going + ";");
            fair(same, 0, 20, BAD);
            fair(same, 2, 20, 20, BAD);
            // The first turn has none ahead.
            OverAndBack first = CHECK.laid("n10;s0;s3;w0,1;g" + going + ";");
            fair(first, 0, 30, BAD);
        }
        // The minutes that show nothing are the first ones of the turn: 10, 11, not 12.
        fair(CHECK.laid("n20;g2;s1;s0;m1,11,11,7,8;w0,0;w0,1;"), 0, 0, BAD);
        fair(CHECK.laid("n20;g2;s1;s0;m1,12,12,7,8;w0,0;w0,1;"), 0, 7, BAD);
    }

    private static void shares() {
        CHECK.says("A WATCHER has the WORTH of all minutes on which his own STATION is on.");
        OverAndBack x = CHECK.laid("n20;g0;s1;s1;w0,0;w1,1;w2,0;");
        fair(x, 0, 10, BAD);
        fair(x, 1, 0, 1, BAD);
        fair(x, 2, 10, 10, 10, BAD);
        OverAndBack kinds = CHECK.laid("n10;g0;s1;s9;b0,2,2;w3,0;w1,0;");
        fair(kinds, 2, 9, 9, BAD);
        OverAndBack chance = CHECK.laid("n10;s1;u0,0,9,10;w0,0;");
        fair(chance, 2, 10, BAD);
    }

    private static void fair() {
        CHECK.says("FAIR: of all ways to hold it that by which the one who has least has most, "
            + "of several the first (by the holder of turn 0, the lowest, then turn 1, ..): "
            + "as much; the holder of a turn; what a WATCHER has.");
        OverAndBack x = CHECK.laid("n30;g0;s1;s1;s1;w0,2;w0,1;w0,0;");
        fair(x, 0, 10, BAD);
        fair(x, 1, 0, 1, 2, BAD);
        fair(x, 2, 10, 10, 10, BAD);
        // Of 4096 ways one alone gives each of the four his worth, and it is among the last.
        OverAndBack high = CHECK.laid("n60;g0;s0;s0;s0;s0;m3,0,29,1,8;m2,30,39,3,8;m1,40,49,3,8;m0,50,59,3,8;w0,0;w0,1;w0,2;w0,3;");
        fair(high, 0, 30, BAD);
        fair(high, 1, 3, 3, 3, 2, 1, 0, BAD);
        fair(high, 2, 30, 30, 30, 30, BAD);
        OverAndBack nothing = CHECK.laid("n60;s0;s0;s0;s0;w0,0;w0,1;w0,2;w0,3;");
        fair(nothing, 0, 0, BAD);
        fair(nothing, 1, 0, 0, 0, 0, 0, 0, BAD);
        OverAndBack all = CHECK.laid("n60;s9;s0;w0,0;");
        fair(all, 0, 540, BAD);
        fair(all, 2, 540, BAD);
    }

    private static void noWatchers() {
        CHECK.says("NO WATCHERS: none.");
        for (int minutes = 1; minutes <= 60; minutes += 59) {
            OverAndBack x = CHECK.laid("s1;n" + minutes + ";");
            fair(x, 0, NONE, BAD);
            fair(x, 2, NONE, BAD);
            CHECK.due("the last turn", x.fair((minutes - 1) / 10, 1), NONE);
            CHECK.due("one beyond", x.fair((minutes - 1) / 10 + 1, 1), BAD);
        }
    }
}
