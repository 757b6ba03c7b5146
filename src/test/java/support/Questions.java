/**
 * Asks two objects the same questions and wants the same answers. All of them together are
 * some 300 calls on an evening of 12 minutes, so that an object of 200 letters can be asked.
 */
final class Questions {
    private final OverAndBack x;
    private final OverAndBack y;
    private final Check check;
    private int asked = 0;

    Questions(OverAndBack x, OverAndBack y, Check check) {
        this.x = x;
        this.y = y;
        this.check = check;
    }

    private void same(String call, int one, int other) {
        asked++;
        check.due(call, one, other);
    }

    int asked() {
        return asked;
    }

    /** What changes nothing is asked ahead of what does. */
    void all() {
        counts();
        evening();
        watchers();
        plan();
        best();
        chances();
        fitting();
        undoing();
        keeping();
        laying();
    }

    void counts() {
        for (int what = 0; what <= 9; what++) {
            same("count " + what, x.count(what), y.count(what));
        }
        same("fault", x.fault(), y.fault());
    }

    void evening() {
        for (int s = 0; s < 2; s++) {
            for (int t = 0; t < 12; t++) {
                for (int what = 0; what <= 2; what++) {
                    same("minute " + s + " " + t + " " + what, x.minute(s, t, what), y.minute(s, t, what));
                }
            }
        }
        for (int set : new int[] {0, 1, 2, 3, 255}) {
            same("known " + set, x.known(set), y.known(set));
        }
    }

    void watchers() {
        for (int i = 0; i < 4; i++) {
            for (int what = 0; what <= 5; what++) {
                same("watcher " + i + " " + what, x.watcher(i, what), y.watcher(i, what));
            }
            for (int t = 1; t < 12; t += 2) {
                same("where " + i + " " + t, x.where(i, t), y.where(i, t));
            }
        }
    }

    void plan() {
        same("judge", x.judge(), y.judge());
        for (int what = 0; what <= 2; what++) {
            same("plan " + what, x.plan(what), y.plan(what));
        }
        for (int t = 0; t < 12; t++) {
            same("at " + t, x.at(t), y.at(t));
        }
    }

    void best() {
        for (int s = 0; s < 2; s++) {
            for (int what = 0; what <= 2; what++) {
                same("most " + s + " 0 " + what, x.most(s, 0, what), y.most(s, 0, what));
            }
            same("understand " + s + " 3 0", x.understand(s, 3, 0), y.understand(s, 3, 0));
            same("understand " + s + " 4 1", x.understand(s, 4, 1), y.understand(s, 4, 1));
            same("soonest " + s + " 2", x.soonest(s, 2), y.soonest(s, 2));
            same("fair " + s + " 1", x.fair(s, 1), y.fair(s, 1));
            same("fair " + s + " 2", x.fair(s, 2), y.fair(s, 2));
        }
        same("ask 1 4", x.ask(1, 4), y.ask(1, 4));
        same("fair 0 0", x.fair(0, 0), y.fair(0, 0));
    }

    void chances() {
        for (int i = -1; i < 2; i++) {
            same("mean " + i + " 0", x.mean(i, 0), y.mean(i, 0));
            same("mean " + i + " 1", x.mean(i, 1), y.mean(i, 1));
            same("sure " + i, x.sure(i), y.sure(i));
        }
    }

    void fitting() {
        for (int set = 0; set < 4; set++) {
            same("fits " + set, x.fits(set), y.fits(set));
            same("matters " + set, x.matters(set), y.matters(set));
            same("night 7 " + set + " 0", x.night(7, set, 0), y.night(7, set, 0));
            same("night 9 " + set + " 1", x.night(9, set, 1), y.night(9, set, 1));
        }
    }

    /** Undoes all that can be, looking at the plan each time. */
    private void undoing() {
        boolean more = true;
        for (int k = 0; k < 10 && more; k++) {
            int one = x.undo();
            same("undo", one, y.undo());
            shortly();
            more = one >= 0;
        }
    }

    /** Goes back to all that is kept, looking at the plan each time. */
    private void keeping() {
        boolean more = true;
        for (int k = 0; k < 4 && more; k++) {
            int one = x.back();
            same("back", one, y.back());
            shortly();
            more = one >= 0;
        }
    }

    private void shortly() {
        same("at 0", x.at(0), y.at(0));
        same("plan 0", x.plan(0), y.plan(0));
        same("goings", x.count(6), y.count(6));
    }

    /** What is in the text shows when it is laid. */
    private void laying() {
        same("lay", x.lay(), y.lay());
        for (int what = 0; what <= 9; what++) {
            same("count behind lay " + what, x.count(what), y.count(what));
        }
        same("plan 0 behind lay", x.plan(0), y.plan(0));
        same("wipe", x.wipe(), y.wipe());
    }
}
