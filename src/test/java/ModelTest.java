import java.util.Random;

/** Runs of calls by draws (the same in every run of the test), each answered by the model too. */
public final class ModelTest {
    private final Check check = new Check();
    private final Random draw = new Random(20261118);
    private OverAndBack x;
    private Model m;

    public static void main(String[] args) {
        ModelTest test = new ModelTest();
        for (int run = 0; run < 700; run++) {
            test.run(run);
        }
        test.check.end();
    }

    private void run(int run) {
        x = new OverAndBack();
        m = new Model();
        int used = 0;
        for (int round = 0; round < 2; round++) {
            String text = text(run);
            used += text.length() + 2;
            for (int p = 0; p < text.length(); p++) {
                char c = text.charAt(p);
                check.due("write(" + c + ")", x.write(c), m.write(c));
            }
            String told = "run " + run + " " + text + " ";
            check.due(told + "fault()", x.fault(), m.fault());
            check.due(told + "lay()", x.lay(), m.lay());
            int calls = run % 8 == 0 ? 40 : 50;
            for (int k = 0; k < calls; k++) {
                call(told, draw.nextInt(28));
            }
            used += calls;
            check.due(told + "wipe()", x.wipe(), m.wipe());
        }
        if (used > 510) {
            check.due("calls of a run", used, 510);
        }
    }

    // ---- texts

    private String text(int run) {
        StringBuilder b = new StringBuilder();
        boolean small = run % 3 == 0;
        int minutes = small ? 1 + draw.nextInt(9) : 1 + draw.nextInt(60);
        if (draw.nextInt(6) != 0) {
            b.append('n').append(minutes).append(';');
        }
        int stations = 1 + draw.nextInt(4);
        for (int s = 0; s < stations; s++) {
            b.append('s').append(draw.nextInt(10)).append(';');
        }
        if (draw.nextInt(4) != 0) {
            b.append('g').append(draw.nextInt(4)).append(';');
        }
        String letters = "mmmmmmmbbbuuffwwwns";
        int items = 6 + draw.nextInt(14);
        int span = Math.max(minutes, 6);
        for (int k = 0; k < items; k++) {
            String item = item(letters.charAt(draw.nextInt(letters.length())), stations, span);
            if (b.length() + item.length() <= 190) {
                b.append(item);
            }
        }
        if (draw.nextInt(6) == 0) {
            spoil(b);
        }
        return b.toString();
    }

    private String item(char letter, int stations, int span) {
        int s = draw.nextInt(stations);
        int a = draw.nextInt(Math.min(60, span));
        int z = Math.min(59, a + draw.nextInt(Math.max(2, span / 3)));
        switch (letter) {
            case 'm': return "m" + s + "," + a + "," + z + "," + draw.nextInt(10) + "," + draw.nextInt(9) + ";";
            case 'b': return "b" + s + "," + a + "," + z + ";";
            case 'u': return "u" + s + "," + a + "," + z + "," + draw.nextInt(11) + ";";
            case 'f': return "f" + draw.nextInt(8) + "," + draw.nextInt(8) + "," + draw.nextInt(8) + ";";
            case 'w': return "w" + draw.nextInt(4) + "," + s + ";";
            case 'n': return draw.nextInt(8) == 0 ? "n" + (1 + draw.nextInt(60)) + ";" : "";
            default: return draw.nextInt(8) == 0 ? "s" + draw.nextInt(10) + ";" : "";
        }
    }

    private void spoil(StringBuilder b) {
        int p = draw.nextInt(b.length());
        String signs = "0123456789,;nsmbugfw x";
        switch (draw.nextInt(3)) {
            case 0: b.setCharAt(p, signs.charAt(draw.nextInt(signs.length()))); break;
            case 1: b.deleteCharAt(p); break;
            default: b.insert(p, signs.charAt(draw.nextInt(signs.length())));
        }
    }

    // ---- calls

    /** Mostly 0 to n less 1, now and then one beyond. */
    private int near(int n) {
        return draw.nextInt(12) == 0 ? draw.nextInt(n + 4) - 2 : draw.nextInt(Math.max(1, n));
    }

    private int set() {
        int some = draw.nextInt(256) & draw.nextInt(256);
        return draw.nextInt(20) == 0 ? draw.nextInt(260) - 2 : draw.nextInt(3) == 0 ? 1 << draw.nextInt(8) : some;
    }

    private void call(String told, int which) {
        int s = near(m.stations());
        int t = near(m.told.minutes);
        int i = near(m.watchers());
        int set = set();
        int what = near(3);
        switch (which) {
            case 0: check.due(told + "minute " + s + " " + t + " " + what, x.minute(s, t, what), m.minute(s, t, what)); break;
            case 1: check.due(told + "known " + set, x.known(set), m.known(set)); break;
            case 2: what = near(6); check.due(told + "watcher " + i + " " + what, x.watcher(i, what), m.watcher(i, what)); break;
            case 3: check.due(told + "where " + i + " " + t, x.where(i, t), m.where(i, t)); break;
            case 4: check.due(told + "begin " + s, x.begin(s), m.begin(s)); break;
            case 5: case 6: case 7: case 8:
                goOver(told, t, s); break;
            case 9: check.due(told + "undo", x.undo(), m.undo()); break;
            case 10: check.due(told + "judge", x.judge(), m.judge()); break;
            case 11: check.due(told + "plan " + what, x.plan(what), m.plan(what)); break;
            case 12: check.due(told + "at " + t, x.at(t), m.at(t)); break;
            case 13: case 14: check.due(told + "most " + s + " " + t + " " + what, x.most(s, t, what), m.most(s, t, what)); break;
            case 15: what = near(2); check.due(told + "understand " + s + " " + set + " " + what, x.understand(s, set, what), m.understand(s, set, what)); break;
            case 16: check.due(told + "soonest " + s + " " + set, x.soonest(s, set), m.soonest(s, set)); break;
            case 17: int knows = set(); check.due(told + "ask " + knows + " " + set, x.ask(knows, set), m.ask(knows, set)); break;
            default: laterCall(told, which, i, set);
        }
    }

    /** Goings mostly behind those ahead, so that many of them are done. */
    private void goOver(String told, int t, int s) {
        int size = m.plan.goings().size();
        int minute = t;
        if (size > 0 && draw.nextInt(3) != 0) {
            minute = m.plan.goings().get(size - 2) + draw.nextInt(5);
        }
        check.due(told + "over " + minute + " " + s, x.over(minute, s), m.over(minute, s));
    }

    private void laterCall(String told, int which, int i, int set) {
        int what = near(3);
        switch (which) {
            case 18: int k = near(what == 1 ? 6 : what == 2 ? 4 : 1);
                check.due(told + "fair " + k + " " + what, x.fair(k, what), m.fair(k, what)); break;
            case 19: what = near(2); int who = draw.nextInt(3) == 0 ? -1 : i;
                check.due(told + "mean " + who + " " + what, x.mean(who, what), m.mean(who, what)); break;
            case 20: int he = draw.nextInt(3) == 0 ? -1 : i;
                check.due(told + "sure " + he, x.sure(he), m.sure(he)); break;
            case 21: int fit = m.watchers() > 0 && draw.nextBoolean() ? m.watcher(0, 3) : set;
                check.due(told + "fits " + fit, x.fits(fit), m.fits(fit)); break;
            case 22: check.due(told + "matters " + i, x.matters(i), m.matters(i)); break;
            case 23: case 24: int z = draw.nextInt(10) == 0 ? draw.nextInt(10004) - 2 : draw.nextInt(10000); what = near(2);
                check.due(told + "night " + z + " " + i + " " + what, x.night(z, i, what), m.night(z, i, what)); break;
            case 25: if (draw.nextInt(3) == 0) {
                    check.due(told + "keep", x.keep(), m.keep());
                } break;
            case 26: if (draw.nextInt(4) == 0) {
                    check.due(told + "back", x.back(), m.back());
                } break;
            default: what = near(10);
                check.due(told + "count " + what, x.count(what), m.count(what));
        }
    }
}
