/** "Terms", part 4: MEAN, SURE, FITS, MATTERS, A NIGHT, KEPT, each sentence for itself, at the bound and one beyond it. */
public final class ChanceBoundsTest {
    private static final Check CHECK = new Check();
    private static final int NONE = OverAndBack.NONE;
    private static final int BAD = OverAndBack.BAD;
    private static final int NO = OverAndBack.NO;
    private static final int FULL = OverAndBack.FULL;

    public static void main(String[] args) {
        mean();
        meanInLowestTerms();
        sure();
        fits();
        matters();
        nightBreaks();
        nightBounds();
        kept();
        CHECK.end();
    }

    private static void mean(OverAndBack x, int i, int above, int below) {
        CHECK.due("mean " + i + " above", x.mean(i, 0), above);
        CHECK.due("mean " + i + " below", x.mean(i, 1), below);
    }

    private static void mean() {
        CHECK.says("MEAN of a WATCHER (or of THE PLAN): what he SEES on the mean, "
            + "each BREAK by chance coming by its chance for itself (he acts by BREAKS that come),");
        // Two BREAKS of the same minute, each for itself: it shows by 1/2 times 1/2.
        mean(CHECK.laid("n1;s8;u0,0,0,5;u0,0,0,5;w0,0;"), 0, 2, 1);
        mean(CHECK.laid("n1;s8;u0,0,0,5;u0,0,0,10;w0,0;"), 0, 0, 1);
        mean(CHECK.laid("n1;s8;u0,0,0,0;u0,0,0,0;w0,0;"), 0, 8, 1);
        mean(CHECK.laid("n4;s1;u0,0,0,1;u0,1,1,2;u0,2,2,3;u0,3,3,4;w0,0;"), 0, 3, 1);
        // OVER goes at minute 1 if the BREAK comes: 1 + 9 + 9 by 3 of ten, else 4.
        OverAndBack over = CHECK.laid("n4;s1;s9;u0,1,1,3;w1,0;w0,0;w2,0;w3,1;");
        mean(over, 0, 17, 2);
        mean(over, 1, 37, 10);
        // BACK goes at minute 1 and back at minute 2: 1 + 1 by 3 of ten, else 4.
        mean(over, 2, 17, 5);
        mean(over, 3, 36, 1);
        mean(over, -1, 37, 10);
        over.over(0, 1);
        mean(over, -1, 27, 1);
        // A BREAK that comes where there is one already changes nothing.
        mean(CHECK.laid("n2;s4;b0,0,0;u0,0,0,5;w1,0;"), 0, 4, 1);
        CHECK.due("no watcher", CHECK.laid("s1;").mean(0, 0), BAD);
        mean(CHECK.laid("s1;"), -1, 30, 1);
    }

    private static void meanInLowestTerms() {
        CHECK.says("in lowest terms.");
        mean(CHECK.laid("n60;s9;u0,0,59,10;"), -1, 0, 1);
        mean(CHECK.laid("n60;s0;u0,0,59,5;"), -1, 0, 1);
        mean(CHECK.laid("n60;s9;"), -1, 540, 1);
        mean(CHECK.laid("n1;s1;u0,0,0,9;u0,0,0,9;u0,0,0,9;u0,0,0,9;"), -1, 1, 10000);
        mean(CHECK.laid("n1;s1;u0,0,0,7;u0,0,0,9;u0,0,0,9;u0,0,0,9;"), -1, 3, 10000);
        mean(CHECK.laid("n1;s1;u0,0,0,8;u0,0,0,9;u0,0,0,9;u0,0,0,9;"), -1, 1, 5000);
        mean(CHECK.laid("n1;s1;u0,0,0,5;u0,0,0,5;u0,0,0,5;u0,0,0,5;"), -1, 1, 16);
        mean(CHECK.laid("n1;s1;u0,0,0,8;u0,0,0,8;u0,0,0,8;u0,0,0,8;"), -1, 1, 625);
        mean(CHECK.laid("n60;s9;u0,0,0,1;u0,1,1,1;u0,2,2,1;u0,3,3,1;"), -1, 2682, 5);
        mean(CHECK.laid("n10;s1;u0,0,0,3;"), -1, 97, 10);
    }

    private static void sure() {
        CHECK.says("SURE: the FACTS (bits) that he KNOWS in the end, whichever come (those of no chance never, of ten of ten always).");
        for (int chance = 0; chance <= 10; chance++) {
            OverAndBack x = CHECK.laid("n2;g0;s1;s1;m0,1,1,1,0;m1,1,1,1,7;u0,1,1," + chance + ";w0,0;w1,0;w0,1;");
            CHECK.due("stays by " + chance, x.sure(0), chance == 0 ? 1 : 0);
            CHECK.due("over by " + chance, x.sure(1), chance == 0 ? 1 : chance == 10 ? 128 : 0);
            CHECK.due("the other by " + chance, x.sure(2), 128);
            CHECK.due("the plan by " + chance, x.sure(-1), chance == 0 ? 1 : 0);
        }
        // Whichever comes of two, one of them tells what follows alike.
        CHECK.due("by two ways", CHECK.laid("n2;s1;m0,0,0,1,0;m0,1,1,1,1;f0,0,2;f1,1,2;u0,0,0,5;w0,0;").sure(0), 6);
        CHECK.due("if both can come", CHECK.laid("n2;s1;m0,0,0,1,0;m0,1,1,1,1;f0,0,2;f1,1,2;u0,0,0,5;u0,1,1,5;w0,0;").sure(0), 0);
        CHECK.due("four chances", CHECK.laid("n5;s1;m0,0,4,1,3;u0,0,0,9;u0,1,1,9;u0,2,2,9;u0,3,3,9;w0,0;").sure(0), 8);
        CHECK.due("all facts", CHECK.laid("n8;s0;m0,0,0,0,0;f0,0,1;f0,0,2;f0,0,3;f0,0,4;f0,0,5;f0,0,6;m0,7,7,0,7;").sure(-1), 255);
        CHECK.due("no facts", CHECK.laid("n8;s0;").sure(-1), 0);
        CHECK.due("no watcher", CHECK.laid("n8;s0;").sure(0), BAD);
    }

    private static void fits() {
        CHECK.says("FITS: by KIND (0 to 3) and STATION: 4 times the KIND and the STATION, as bits, "
            + "of all such WATCHERS who would KNOW just a set of FACTS in the end.");
        int[] all = {0, 0x1111, 0x3333, 0x7777, 0xffff};
        for (int many = 1; many <= 4; many++) {
            CHECK.due("of " + many + " stations", CHECK.laid("n2;" + "s1;".repeat(many)).fits(0), all[many]);
        }
        // FACT s on STATION s; BEST goes to the only one of worth, 3.
        OverAndBack x = CHECK.laid("n2;g0;s1;s1;s1;s2;m0,1,1,1,0;m1,1,1,1,1;m2,1,1,1,2;m3,1,1,2,3;");
        for (int s = 0; s < 4; s++) {
            CHECK.due("fact " + s, x.fits(1 << s), s == 3 ? 0x888 | 0xf000 : 0x111 << s);
        }
        CHECK.due("just a set: not less", x.fits(3), 0);
        CHECK.due("nothing", x.fits(0), 0);
        OverAndBack first = CHECK.laid("n1;s1;m0,0,0,1,0;f0,0,7;");
        CHECK.due("with what follows", first.fits(129), 0x1111);
        CHECK.due("not without it", first.fits(1), 0);
        CHECK.due("such as are not told", CHECK.laid("n1;s1;w0,0;").fits(0), 0x1111);
        CHECK.due("breaks by chance do not come", CHECK.laid("n1;s1;m0,0,0,1,0;u0,0,0,10;").fits(1), 0x1111);
        CHECK.due("all eight", CHECK.laid("n2;s0;m0,0,0,0,0;f0,0,1;f0,0,2;f0,0,3;f0,0,4;f0,0,5;f0,0,6;m0,1,1,0,7;").fits(255), 0x1111);
    }

    private static void matters() {
        CHECK.says("MATTERS: the SCENES (bits) without which alone (as if not told) "
            + "a WATCHER would KNOW something else in the end or SEE another WORTH.");
        OverAndBack nine = CHECK.laid("n9;s0;m0,0,0,1,8;m0,1,1,0,0;m0,2,2,0,8;" + "m0,8,8,3,5;".repeat(5) + "m0,8,8,3,6;w0,0;");
        CHECK.due("the first, a fact, the ninth", nine.matters(0), 1 | 2 | 256);
        CHECK.due("another worth alone", CHECK.laid("n1;s1;m0,0,0,2,8;w0,0;").matters(0), 1);
        CHECK.due("another fact alone", CHECK.laid("n1;s1;m0,0,0,1,7;w0,0;").matters(0), 1);
        CHECK.due("neither", CHECK.laid("n1;s1;m0,0,0,1,8;w0,0;").matters(0), 0);
        // Without one of two that tell alike the other tells it: neither matters alone.
        CHECK.due("each alone", CHECK.laid("n2;s1;m0,0,0,1,4;m0,1,1,1,4;w0,0;").matters(0), 0);
        CHECK.due("each for a fact of its own", CHECK.laid("n2;s1;m0,0,0,1,4;m0,1,1,1,5;w0,0;").matters(0), 3);
        CHECK.due("a hidden one shows", CHECK.laid("n1;s1;m0,0,0,2,4;m0,0,0,2,4;w0,0;").matters(0), 0);
        CHECK.due("what follows alike", CHECK.laid("n2;s1;m0,0,0,1,4;m0,1,1,1,5;f4,4,5;w0,0;").matters(0), 1);
        // BEST goes over for a scene that he then misses.
        CHECK.due("it leads him away", CHECK.laid("n3;s1;s0;m1,0,0,9,8;w3,0;").matters(0), 1);
        CHECK.due("of a station where he never is", CHECK.laid("n3;s1;s0;m1,0,0,9,0;w0,0;").matters(0), 0);
        CHECK.due("beyond the evening", CHECK.laid("n3;s1;m0,3,3,9,0;w0,0;").matters(0), 0);
        CHECK.due("no scenes", CHECK.laid("n3;s1;w0,0;").matters(0), 0);
        CHECK.due("no watchers", CHECK.laid("n3;s1;m0,0,0,9,0;").matters(0), BAD);
    }

    /** The rule in whole numbers without bounds. */
    private static boolean drawn(int z, int t, int s) {
        java.math.BigInteger x = java.math.BigInteger.valueOf(7919).multiply(java.math.BigInteger.valueOf(z))
            .add(java.math.BigInteger.valueOf(6151L * t + 3571L * s + 1));
        return x.multiply(x).mod(java.math.BigInteger.valueOf(65521)).intValue() % 4 == 0;
    }

    private static void nightBreaks() {
        CHECK.says("at minute t there is a BREAK on STATION s (and no other BREAK in all the EVENING), "
            + "if ((x times x) modulo 65521) modulo 4 is 0, x being 7919 z, 6151 t, 3571 s and 1 together:");
        int[] nights = {0, 1, 2, 271, 272, 5000, 9998, 9999};
        for (int minutes = 1; minutes <= 60; minutes++) {
            // All other breaks are there all the evening, and none of them at night.
            OverAndBack x = CHECK.laid("n" + minutes + ";s9;s1;s1;s2;b0,0,59;b3,0,59;u3,0,59,10;w0,0;w0,3;");
            for (int z : nights) {
                int first = 0;
                int last = 0;
                for (int t = 0; t < minutes; t++) {
                    first += drawn(z, t, 0) ? 0 : 9;
                    last += drawn(z, t, 3) ? 0 : 2;
                }
                CHECK.due("night " + z + " of " + minutes, x.night(z, 0, 0), first);
                CHECK.due("night " + z + " of " + minutes, x.night(z, 1, 0), last);
            }
        }
        // By hand: x is 1 for z 0: 1, no BREAK; 39596 for z 5: 1567843216, 56728 modulo 65521, a BREAK.
        CHECK.due("night 0, minute 0", CHECK.laid("n1;s7;w0,0;").night(0, 0, 0), 7);
        CHECK.due("night 5, minute 0", CHECK.laid("n1;s7;w0,0;").night(5, 0, 0), 0);
        CHECK.due("whatever scene is there", CHECK.laid("n1;s7;m0,0,0,9,0;w0,0;").night(5, 0, 0), 0);
        CHECK.due("a scene without a break", CHECK.laid("n1;s7;m0,0,0,9,0;w0,0;").night(0, 0, 0), 9);
    }

    private static void nightBounds() {
        CHECK.says("A NIGHT by z (0 to 9999):");
        OverAndBack x = new OverAndBack();
        for (int what = 0; what <= 1; what++) {
            CHECK.due("night 0", x.night(0, 0, what) >= 0 ? 1 : 0, 1);
            CHECK.due("night 9999", x.night(9999, 0, what) >= 0 ? 1 : 0, 1);
            CHECK.due("night -1", x.night(-1, 0, what), BAD);
            CHECK.due("night 10000", x.night(10000, 0, what), BAD);
        }
        CHECK.says("what a WATCHER SEES; how often he GOES.");
        // OVER on two stations, minute by minute as the document tells it.
        for (int z = 0; z < 40; z++) {
            OverAndBack night = CHECK.laid("n3;g0;s1;s1;w0,0;w1,0;");
            int here = 0;
            int goings = 0;
            int worth = 0;
            for (int t = 0; t < 3; t++) {
                if (drawn(z, t, here) && !drawn(z, t, 1 - here)) {
                    here = 1 - here;
                    goings++;
                }
                worth += drawn(z, t, here) ? 0 : 1;
            }
            CHECK.due("over sees in night " + z, night.night(z, 1, 0), worth);
            CHECK.due("over goes in night " + z, night.night(z, 1, 1), goings);
            CHECK.due("stays goes in night " + z, night.night(z, 0, 1), 0);
        }
    }

    private static void kept() {
        CHECK.says("KEPT are THE PLANS: 2 at most.");
        OverAndBack x = CHECK.laid("n4;g0;s1;s2;s3;");
        CHECK.due("nothing kept", x.back(), NO);
        x.begin(1);
        CHECK.due("the first", x.keep(), 1);
        x.over(2, 2);
        CHECK.due("the second", x.keep(), 2);
        x.begin(2);
        CHECK.due("a third", x.keep(), FULL);
        CHECK.due("kept", x.count(8), 2);
        CHECK.due("back to the second", x.back(), 1);
        CHECK.due("begins", x.at(0), 1);
        CHECK.due("goes", x.at(2), 2);
        CHECK.due("goings", x.count(6), 1);
        CHECK.due("back to the first", x.back(), 0);
        CHECK.due("begins", x.at(0), 1);
        CHECK.due("stays", x.at(3), 1);
        CHECK.due("goings", x.count(6), 0);
        CHECK.due("no more", x.back(), NO);
        CHECK.due("judge", x.judge(), NONE);
        CHECK.due("anew", x.keep(), 1);
        // Nine goings are kept whole, and what is done to THE PLAN is not done to what is kept.
        for (int k = 0; k < 9; k++) {
            x.over(3, 0);
        }
        CHECK.due("nine are kept", x.keep(), 2);
        for (int k = 0; k < 8; k++) {
            x.undo();
        }
        CHECK.due("back to nine", x.back(), 1);
        CHECK.due("nine", x.count(6), 9);
        CHECK.due("a tenth", x.over(0, 0), FULL);
    }
}
