import java.util.Random;

/** Promises 16 to 18 against all evenings that there are, listed one by one, on short evenings. */
public final class EveryEveningTest {
    private static final Check CHECK = new Check();
    private static final int NEVER = 1000;

    private final OverAndBack x;
    private final String text;
    private final int minutes;
    private final int stations;
    private final int going;
    private int set;
    private int from;
    private int worth, first, goal;
    private int fewest, minutesByFewest, soonest;
    private int[] path;

    private EveryEveningTest(String text, int minutes, int stations, int going) {
        this.x = CHECK.laid(text);
        this.text = text;
        this.minutes = minutes;
        this.stations = stations;
        this.going = going;
    }

    public static void main(String[] args) {
        Random draw = new Random(7);
        for (int k = 0; k < 400; k++) {
            int minutes = 1 + draw.nextInt(7);
            int stations = 1 + draw.nextInt(3);
            int going = draw.nextInt(4);
            StringBuilder b = new StringBuilder("n" + minutes + ";g" + going + ";");
            for (int s = 0; s < stations; s++) {
                b.append('s').append(draw.nextInt(3)).append(';');
            }
            for (int m = 0; m < 7; m++) {
                int a = draw.nextInt(minutes);
                b.append('m').append(draw.nextInt(stations)).append(',').append(a).append(',').append(a + draw.nextInt(2))
                    .append(',').append(draw.nextInt(4)).append(',').append(draw.nextInt(4)).append(';');
            }
            b.append("b0,").append(draw.nextInt(minutes)).append(",30;f0,1,4;");
            new EveryEveningTest(b.toString(), minutes, stations, going).compare();
        }
        CHECK.end();
    }

    private void compare() {
        for (int s = 0; s < stations; s++) {
            for (int t = 0; t < minutes; t++) {
                from = t;
                start(0);
                list(t, s, 0, NEVER, NEVER, 0);
                CHECK.due(text + " most " + s + " " + t + " 0", x.most(s, t, 0), worth);
                CHECK.due(text + " most " + s + " " + t + " 1", x.most(s, t, 1), none(first));
                CHECK.due(text + " most " + s + " " + t + " 2", x.most(s, t, 2), none(goal));
            }
            from = 0;
            for (int wanted : new int[] {0, 1, 2, 3, 5, 11, 16, 24, 31}) {
                start(wanted);
                list(0, s, 0, NEVER, NEVER, 0);
                CHECK.due(text + " understand " + s + " " + set + " 0", x.understand(s, set, 0), none(fewest));
                CHECK.due(text + " understand " + s + " " + set + " 1", x.understand(s, set, 1), none(minutesByFewest));
                CHECK.due(text + " soonest " + s + " " + set, x.soonest(s, set), none(soonest));
            }
        }
    }

    private static int none(int number) {
        return number == NEVER ? OverAndBack.NONE : number;
    }

    private void start(int wanted) {
        set = wanted;
        worth = -1;
        fewest = NEVER;
        minutesByFewest = NEVER;
        soonest = NEVER;
        path = new int[minutes];
    }

    /** At minute t one is on s and may go; the path tells where one is (-1: going) in each minute ahead. */
    private void list(int t, int s, int sum, int itsFirst, int itsGoal, int goings) {
        if (t >= minutes) {
            judge(sum, itsFirst, itsGoal, goings);
            return;
        }
        for (int g = 0; g < stations; g++) {
            int next = t;
            if (g != s) {
                for (int k = 0; k < going && next < minutes; k++) {
                    path[next++] = -1;
                }
            }
            boolean sees = g == s || going == 0;
            int more = 0;
            if (sees) {
                path[next++] = g;
                more = x.minute(g, t, 0);
            }
            boolean isFirst = g != s && itsFirst == NEVER;
            list(next, g, sum + more, isFirst ? t : itsFirst, isFirst ? g : itsGoal, goings + (g == s ? 0 : 1));
        }
    }

    private void judge(int sum, int itsFirst, int itsGoal, int goings) {
        boolean better = sum > worth || sum == worth && (itsFirst > first || itsFirst == first && itsGoal < goal);
        if (better) {
            worth = sum;
            first = itsFirst;
            goal = itsGoal;
        }
        int known = from == 0 ? knownBehind() : NEVER;
        if (goings > 6 || known == NEVER) {
            return;
        }
        soonest = Math.min(soonest, known);
        if (goings < fewest || goings == fewest && known < minutesByFewest) {
            fewest = goings;
            minutesByFewest = known;
        }
    }

    private int knownBehind() {
        int seen = 0;
        if (set == 0) {
            return 0;
        }
        for (int t = 0; t < minutes; t++) {
            int fact = path[t] < 0 ? OverAndBack.NONE : x.minute(path[t], t, 1);
            seen |= fact < 0 ? 0 : 1 << fact;
            int known = (seen & 3) == 3 ? seen | 16 : seen;
            if ((known & set) == set) {
                return t + 1;
            }
        }
        return NEVER;
    }
}
