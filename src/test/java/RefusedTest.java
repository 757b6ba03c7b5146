import java.util.function.ToIntFunction;

/**
 * "Of several the first; nothing changes then.": two objects are led alike, one of them is refused a call,
 * and both answer all questions alike ever after.
 */
public final class RefusedTest {
    private static final Check CHECK = new Check();
    private static final int BAD = OverAndBack.BAD;
    private static final int NO = OverAndBack.NO;
    private static final int NONE = OverAndBack.NONE;
    private static final int FULL = OverAndBack.FULL;
    private static final int CALLS_MOST = 512;
    private static final int[] FAR = {Integer.MIN_VALUE, Integer.MAX_VALUE};

    /** How an object comes to where it is refused something; answers by how many calls. */
    private enum Lead {
        NEW, HALF, FULLEST, STATIONLESS, BARE;

        int go(OverAndBack x) {
            switch (this) {
                case NEW: return 0;
                case HALF: return write(x, "n10;s1;s") + half(x);
                case FULLEST: return write(x, "n11;s4;s5;w1,0;" + "g2;".repeat(59) + "n8;n9;g1") + fullest(x);
                case STATIONLESS: return write(x, "n10;g2;") + half(x);
                default: return write(x, "n12;s2;s3;") + bare(x);
            }
        }

        private static int write(OverAndBack x, String text) {
            Check.write(x, text);
            return text.length();
        }

        private static int half(OverAndBack x) {
            x.begin(1);
            x.over(3, 0);
            x.keep();
            x.over(6, 1);
            x.begin(0);
            return 5;
        }

        private static int fullest(OverAndBack x) {
            x.begin(1);
            for (int k = 0; k < 9; k++) {
                x.over(k, k % 2);
            }
            x.keep();
            x.undo();
            x.over(11, 1);
            x.keep();
            return 14;
        }

        private static int bare(OverAndBack x) {
            x.lay();
            x.over(2, 1);
            return 2;
        }
    }

    public static void main(String[] args) {
        badNumbers();
        notAsThingsStand();
        none();
        full();
        ofSeveralTheFirst();
        questionsChangeNothing();
        CHECK.end();
    }

    private static void refused(Lead lead, String name, int due, ToIntFunction<OverAndBack> call) {
        OverAndBack x = new OverAndBack();
        OverAndBack y = new OverAndBack();
        int used = lead.go(x);
        lead.go(y);
        CHECK.due(lead + " " + name, call.applyAsInt(x), due);
        Questions questions = new Questions(x, y, CHECK);
        questions.all();
        CHECK.due("calls of an object", Math.max(CALLS_MOST, used + 1 + questions.asked()), CALLS_MOST);
    }

    private static void bad(String name, ToIntFunction<OverAndBack> call) {
        for (Lead lead : Lead.values()) {
            refused(lead, name, BAD, call);
        }
    }

    /** A number below the least, above the greatest, and as far off as can be. */
    private interface Taking {
        int call(OverAndBack x, int number);
    }

    private static void badNumber(String name, int least, int greatest, Taking taking) {
        bad(name + " " + (least - 1), x -> taking.call(x, least - 1));
        bad(name + " " + (greatest + 1), x -> taking.call(x, greatest + 1));
        for (int far : FAR) {
            refused(Lead.HALF, name + " " + far, BAD, x -> taking.call(x, far));
        }
    }

    // ---- the sentences

    /** All leads but BARE have four WATCHERS; all have STATIONS 0 and 1 and minutes 0 to 11. */
    private static void badNumbers() {
        CHECK.says("BAD: a number is none that is told (STATIONS, WATCHERS, SCENES: such as there are; "
            + "minutes of the EVENING; sets 0 to 255).");
        badNumber("write", 32, 126, (x, n) -> x.write(n));
        badNumber("minute of", 0, 1, (x, n) -> x.minute(n, 0, 0));
        badNumber("minute at", 0, 11, (x, n) -> x.minute(0, n, 0));
        badNumber("minute what", 0, 2, (x, n) -> x.minute(0, 0, n));
        badNumber("known", 0, 255, (x, n) -> x.known(n));
        badNumber("watcher", 0, 3, (x, n) -> x.watcher(n, 0));
        badNumber("watcher what", 0, 5, (x, n) -> x.watcher(0, n));
        badNumber("where", 0, 3, (x, n) -> x.where(n, 0));
        badNumber("where at", 0, 11, (x, n) -> x.where(0, n));
        badNumber("begin", 0, 1, (x, n) -> x.begin(n));
        badNumber("over at", 0, 11, (x, n) -> x.over(n, 1));
        badNumber("over to", 0, 1, (x, n) -> x.over(3, n));
        badNumber("plan", 0, 2, (x, n) -> x.plan(n));
        badNumber("at", 0, 11, (x, n) -> x.at(n));
        badNumber("most of", 0, 1, (x, n) -> x.most(n, 0, 0));
        badNumber("most at", 0, 11, (x, n) -> x.most(0, n, 0));
        badNumber("most what", 0, 2, (x, n) -> x.most(0, 0, n));
        badNumber("understand of", 0, 1, (x, n) -> x.understand(n, 0, 0));
        badNumber("understand set", 0, 255, (x, n) -> x.understand(0, n, 0));
        badNumber("understand what", 0, 1, (x, n) -> x.understand(0, 0, n));
        badNumber("soonest of", 0, 1, (x, n) -> x.soonest(n, 0));
        badNumber("soonest set", 0, 255, (x, n) -> x.soonest(0, n));
        badNumber("ask by", 0, 255, (x, n) -> x.ask(n, 0));
        badNumber("ask for", 0, 255, (x, n) -> x.ask(0, n));
        badNumber("fair 0 of", 0, 0, (x, n) -> x.fair(n, 0));
        badNumber("fair 1 of", 0, 1, (x, n) -> x.fair(n, 1));
        badNumber("fair 2 of", 0, 3, (x, n) -> x.fair(n, 2));
        badNumber("fair what", 0, 2, (x, n) -> x.fair(0, n));
        badNumber("mean of", -1, 3, (x, n) -> x.mean(n, 0));
        badNumber("mean part", 0, 1, (x, n) -> x.mean(-1, n));
        badNumber("sure", -1, 3, (x, n) -> x.sure(n));
        badNumber("fits", 0, 255, (x, n) -> x.fits(n));
        badNumber("matters", 0, 3, (x, n) -> x.matters(n));
        badNumber("night z", 0, 9999, (x, n) -> x.night(n, 0, 0));
        badNumber("night of", 0, 3, (x, n) -> x.night(0, n, 0));
        badNumber("night what", 0, 1, (x, n) -> x.night(0, 0, n));
        badNumber("count", 0, 9, (x, n) -> x.count(n));
        refused(Lead.BARE, "no watcher", BAD, x -> x.watcher(0, 0));
        refused(Lead.BARE, "no where", BAD, x -> x.where(0, 0));
        refused(Lead.BARE, "no fair", BAD, x -> x.fair(1, 2));
        refused(Lead.BARE, "no mean", BAD, x -> x.mean(0, 0));
        refused(Lead.BARE, "no sure", BAD, x -> x.sure(0));
        refused(Lead.BARE, "no matters", BAD, x -> x.matters(0));
        refused(Lead.BARE, "no night", BAD, x -> x.night(0, 0, 0));
    }

    private static void notAsThingsStand() {
        CHECK.says("NO: not as things stand.");
        refused(Lead.NEW, "lay of nothing", NO, x -> x.lay());
        refused(Lead.HALF, "lay of a fault", NO, x -> x.lay());
        refused(Lead.STATIONLESS, "lay of no station", NO, x -> x.lay());
        refused(Lead.FULLEST, "lay of a fault at the end", NO, x -> x.lay());
        refused(Lead.NEW, "undo of nothing", NO, x -> x.undo());
        refused(Lead.NEW, "back to nothing", NO, x -> x.back());
        refused(Lead.BARE, "back to nothing", NO, x -> x.back());
        OverAndBack x = new OverAndBack();
        x.over(3, 1);
        x.keep();
        x.back();
        CHECK.due("nothing is undone behind back", x.undo(), NO);
        CHECK.due("the going stays", x.count(6), 1);
        CHECK.due("the going stays", x.at(4), 1);
    }

    private static void none() {
        CHECK.says("NONE: there is none.");
        refused(Lead.NEW, "fault", NONE, x -> x.fault());
        refused(Lead.STATIONLESS, "fault", NONE, x -> x.fault());
        refused(Lead.NEW, "judge", NONE, x -> x.judge());
        refused(Lead.BARE, "judge", NONE, x -> x.judge());
        refused(Lead.HALF, "fact", NONE, x -> x.minute(0, 0, 1));
        refused(Lead.HALF, "where", NONE, x -> x.where(1, 5));
        refused(Lead.BARE, "at", NONE, x -> x.at(2));
        refused(Lead.HALF, "first going", NONE, x -> x.most(0, 10, 1));
        refused(Lead.HALF, "its station", NONE, x -> x.most(0, 10, 2));
        refused(Lead.HALF, "understand", NONE, x -> x.understand(0, 8, 0));
        refused(Lead.HALF, "understand", NONE, x -> x.understand(0, 255, 1));
        refused(Lead.HALF, "soonest", NONE, x -> x.soonest(0, 8));
        for (int what = 0; what <= 2; what++) {
            int which = what;
            refused(Lead.BARE, "fair " + what, NONE, x -> x.fair(0, which));
        }
        refused(Lead.BARE, "fair of the last turn", NONE, x -> x.fair(1, 1));
    }

    private static void full() {
        CHECK.says("FULL. Of several the first; nothing changes then.");
        refused(Lead.FULLEST, "write", FULL, x -> x.write('s'));
        refused(Lead.FULLEST, "write the least", FULL, x -> x.write(32));
        refused(Lead.FULLEST, "write the greatest", FULL, x -> x.write(126));
        refused(Lead.FULLEST, "over", FULL, x -> x.over(11, 0));
        refused(Lead.FULLEST, "over", FULL, x -> x.over(0, 1));
        refused(Lead.FULLEST, "keep", FULL, x -> x.keep());
    }

    private static void ofSeveralTheFirst() {
        CHECK.says("Of several the first;");
        refused(Lead.FULLEST, "bad ahead of full", BAD, x -> x.write(31));
        refused(Lead.FULLEST, "bad ahead of full", BAD, x -> x.write(127));
        refused(Lead.FULLEST, "bad ahead of full", BAD, x -> x.over(12, 0));
        refused(Lead.FULLEST, "bad ahead of full", BAD, x -> x.over(0, 2));
        refused(Lead.FULLEST, "bad ahead of full", BAD, x -> x.over(-1, -1));
        refused(Lead.BARE, "bad ahead of none", BAD, x -> x.fair(1, 0));
        refused(Lead.BARE, "bad ahead of none", BAD, x -> x.fair(2, 1));
        refused(Lead.BARE, "bad ahead of none", BAD, x -> x.fair(-1, 1));
        refused(Lead.BARE, "bad ahead of none", BAD, x -> x.fair(1, 2));
        refused(Lead.BARE, "bad ahead of none", BAD, x -> x.fair(0, 3));
        refused(Lead.HALF, "bad ahead of none", BAD, x -> x.understand(0, 8, 2));
        refused(Lead.HALF, "bad ahead of none", BAD, x -> x.understand(2, 8, 0));
        refused(Lead.HALF, "bad ahead of none", BAD, x -> x.soonest(2, 8));
        refused(Lead.HALF, "bad ahead of none", BAD, x -> x.most(0, 12, 1));
        refused(Lead.HALF, "bad ahead of none", BAD, x -> x.where(4, 5));
    }

    /** What is asked, and answered, leaves all as it was. */
    private static void questionsChangeNothing() {
        for (Lead lead : new Lead[] {Lead.NEW, Lead.HALF, Lead.BARE}) {
            OverAndBack x = new OverAndBack();
            OverAndBack y = new OverAndBack();
            OverAndBack other = new OverAndBack();
            lead.go(x);
            lead.go(y);
            lead.go(other);
            Questions asked = new Questions(x, other, CHECK);
            asked.counts();
            asked.evening();
            asked.watchers();
            asked.plan();
            asked.best();
            asked.chances();
            asked.fitting();
            new Questions(x, y, CHECK).all();
        }
    }
}
