import java.util.Arrays;

/**
 * An evening of films on several stations, told in a text: who sees what while
 * he goes over and back, and what could be seen and known at best.
 * The document DOC.md tells every term and every call.
 */
public final class OverAndBack {
    public static final int BAD = -1, NO = -2, FULL = -3, NONE = -4;

    private static final String FIRST_TEXT =
        "n12;s2;s3;m0,2,4,7,0;b0,5,6;m1,5,5,9,1;b1,8,9;f0,1,2;w0,0;w1,0;w2,0;w3,1;";

    private static final int LETTERS_MOST = 200;
    private static final int MINUTES_MOST = 60;
    private static final int STATIONS_MOST = 4;
    private static final int SCENES_MOST = 9;
    private static final int BREAKS_MOST = 6;
    private static final int CHANCES_MOST = 4;
    private static final int RULES_MOST = 6;
    private static final int WATCHERS_MOST = 4;
    private static final int GOINGS_MOST = 9;
    private static final int UNDOINGS_MOST = 8;
    private static final int KEPT_MOST = 2;
    private static final int NUMBERS_MOST = 5;
    private static final int MINUTES_WITHOUT = 30;
    private static final int GOING_WITHOUT = 1;

    private static final int ALL_FACTS = 255;
    private static final int NO_FACT = 8;
    private static final int OVER_KIND = 1;
    private static final int BACK_KIND = 2;
    private static final int BEST_KIND = 3;
    private static final int KINDS = 4;
    private static final int CHANCE_WHOLE = 10;
    private static final int DRAWS = 10000;
    private static final int THE_PLAN = -1;

    private final char[] text = new char[LETTERS_MOST];
    private int length = 0;
    private final Reader reader = new Reader();
    private Evening evening = new Evening();
    private Evening spare = new Evening();
    private final Facts facts = new Facts();
    private final Screen screen = new Screen();
    private final Screen trial = new Screen();
    private final Walk walk = new Walk();
    private final Routes routes = new Routes();
    private final Learning learning = new Learning(screen, facts);
    private final Box box = new Box();
    private final Plan thePlan = new Plan();
    private final Past past = new Past();
    private final Plan firstKept = new Plan();
    private final Plan secondKept = new Plan();
    private int kept = 0;

    public OverAndBack() {
        char[] first = FIRST_TEXT.toCharArray();
        reader.read(first, first.length, evening);
        takeEvening();
    }

    // ---- evenings

    public int write(int letter) {
        if (letter < 32 || letter > 126) {
            return BAD;
        }
        if (length < 0 || length >= text.length) {
            return FULL;
        }
        text[length] = (char) letter;
        length++;
        return length;
    }

    public int wipe() {
        int was = length;
        length = 0;
        return was;
    }

    public int fault() {
        return reader.read(text, length, spare);
    }

    public int lay() {
        if (reader.read(text, length, spare) != NONE || spare.stations.size == 0) {
            return NO;
        }
        Evening old = evening;
        evening = spare;
        spare = old;
        takeEvening();
        return evening.stations.size;
    }

    public int minute(int s, int t, int what) {
        if (!isStation(s) || !isMinute(t) || what < 0 || what > 2) {
            return BAD;
        }
        if (what == 0) {
            return screen.worthOf(s, t);
        }
        if (what == 2) {
            return screen.isBreak(s, t) ? 1 : 0;
        }
        int told = screen.factOf(s, t);
        return told == NO_FACT ? NONE : told;
    }

    public int known(int set) {
        return isSet(set) ? facts.following(set) : BAD;
    }

    // ---- watchers

    public int watcher(int i, int what) {
        if (!isWatcher(i) || what < 0 || what > 5) {
            return BAD;
        }
        follow(i, screen);
        switch (what) {
            case 0: return evening.kindOf(i);
            case 1: return evening.ownOf(i);
            case 2: return walk.worth;
            case 3: return facts.following(walk.seen);
            case 4: return walk.goings;
            default: return routes.worthFrom(evening.ownOf(i), 0) - walk.worth;
        }
    }

    public int where(int i, int t) {
        if (!isWatcher(i) || !isMinute(t)) {
            return BAD;
        }
        follow(i, screen);
        return walk.placeAt(t);
    }

    // ---- the plan

    public int begin(int s) {
        if (!isStation(s)) {
            return BAD;
        }
        int old = thePlan.start;
        // Only a beginning elsewhere can be undone, as the document's words have it.
        if (s != old) {
            past.push(old);
            thePlan.start = s;
        }
        return old;
    }

    public int over(int t, int s) {
        if (!isMinute(t) || !isStation(s)) {
            return BAD;
        }
        if (!thePlan.add(t, s)) {
            return FULL;
        }
        past.push(Past.A_GOING);
        return thePlan.size;
    }

    public int undo() {
        if (past.size == 0) {
            return NO;
        }
        int last = past.pop();
        if (last == Past.A_GOING) {
            thePlan.dropLast();
        } else {
            thePlan.start = last;
        }
        return past.size;
    }

    public int judge() {
        return walk.sortOut(thePlan, evening.going);
    }

    public int plan(int what) {
        if (what < 0 || what > 2) {
            return BAD;
        }
        follow(THE_PLAN, screen);
        switch (what) {
            case 0: return walk.worth;
            case 1: return facts.following(walk.seen);
            default: return walk.goings;
        }
    }

    public int at(int t) {
        if (!isMinute(t)) {
            return BAD;
        }
        follow(THE_PLAN, screen);
        return walk.placeAt(t);
    }

    // ---- most

    public int most(int s, int t, int what) {
        if (!isStation(s) || !isMinute(t) || what < 0 || what > 2) {
            return BAD;
        }
        if (what == 0) {
            return routes.worthFrom(s, t);
        }
        routes.findFirstGoing(evening, screen, s, t);
        return what == 1 ? routes.firstMinute : routes.firstStation;
    }

    public int understand(int s, int set, int what) {
        if (!isStation(s) || !isSet(set) || what < 0 || what > 1) {
            return BAD;
        }
        learning.learn(evening, s, set);
        return what == 0 ? learning.fewestGoings : learning.minutesByFewest;
    }

    public int soonest(int s, int set) {
        if (!isStation(s) || !isSet(set)) {
            return BAD;
        }
        learning.learn(evening, s, set);
        return learning.minutesByAny;
    }

    public int ask(int knows, int set) {
        if (!isSet(knows) || !isSet(set)) {
            return BAD;
        }
        return facts.fewestToAsk(facts.following(knows), set);
    }

    public int fair(int k, int what) {
        if (what < 0 || what > 2 || k < 0 || k >= fairBound(what)) {
            return BAD;
        }
        if (evening.watchers.size == 0) {
            return NONE;
        }
        box.share(evening, screen);
        switch (what) {
            case 0: return box.least;
            case 1: return box.holder(k);
            default: return box.has(evening.ownOf(k));
        }
    }

    // ---- chances

    public int mean(int i, int part) {
        if (!isWatcherOrPlan(i) || part < 0 || part > 1) {
            return BAD;
        }
        int whole = 1;
        for (int c = 0; c < evening.chances.size; c++) {
            whole *= CHANCE_WHOLE;
        }
        int sum = 0;
        for (int coming = 0; coming < 1 << evening.chances.size; coming++) {
            int weight = evening.weightOf(coming);
            if (weight > 0) {
                trial.show(evening, coming, NONE);
                follow(i, trial);
                sum += weight * walk.worth;
            }
        }
        int common = commonDivisor(sum, whole);
        return (part == 0 ? sum : whole) / common;
    }

    public int sure(int i) {
        if (!isWatcherOrPlan(i)) {
            return BAD;
        }
        int always = ALL_FACTS;
        for (int coming = 0; coming < 1 << evening.chances.size; coming++) {
            if (evening.weightOf(coming) > 0) {
                trial.show(evening, coming, NONE);
                follow(i, trial);
                always &= facts.following(walk.seen);
            }
        }
        return always;
    }

    // ---- what fits

    public int fits(int set) {
        if (!isSet(set)) {
            return BAD;
        }
        int fitting = 0;
        for (int kind = 0; kind < KINDS; kind++) {
            for (int s = 0; s < evening.stations.size; s++) {
                walk.followKind(evening, screen, kind, s);
                if (facts.following(walk.seen) == set) {
                    fitting |= 1 << (4 * kind + s);
                }
            }
        }
        return fitting;
    }

    public int matters(int i) {
        if (!isWatcher(i)) {
            return BAD;
        }
        follow(i, screen);
        int worth = walk.worth;
        int knows = facts.following(walk.seen);
        int mattering = 0;
        for (int scene = 0; scene < evening.scenes.size; scene++) {
            trial.show(evening, 0, scene);
            follow(i, trial);
            if (walk.worth != worth || facts.following(walk.seen) != knows) {
                mattering |= 1 << scene;
            }
        }
        return mattering;
    }

    public int night(int z, int i, int what) {
        if (z < 0 || z >= DRAWS || !isWatcher(i) || what < 0 || what > 1) {
            return BAD;
        }
        trial.showNight(evening, z);
        follow(i, trial);
        return what == 0 ? walk.worth : walk.goings;
    }

    public int keep() {
        if (kept >= KEPT_MOST) {
            return FULL;
        }
        keptPlan(kept).copyFrom(thePlan);
        kept++;
        return kept;
    }

    public int back() {
        if (kept <= 0) {
            return NO;
        }
        kept--;
        thePlan.copyFrom(keptPlan(kept));
        past.clear();
        return kept;
    }

    public int count(int what) {
        switch (what) {
            case 0: return evening.stations.size;
            case 1: return evening.minutes;
            case 2: return evening.scenes.size;
            case 3: return evening.breaks.size;
            case 4: return evening.chances.size;
            case 5: return evening.watchers.size;
            case 6: return thePlan.size;
            case 7: return past.size;
            case 8: return kept;
            case 9: return length;
            default: return BAD;
        }
    }

    // ---- helpers

    private boolean isStation(int s) {
        return s >= 0 && s < evening.stations.size;
    }

    private boolean isMinute(int t) {
        return t >= 0 && t < evening.minutes;
    }

    private boolean isWatcher(int i) {
        return i >= 0 && i < evening.watchers.size;
    }

    private boolean isWatcherOrPlan(int i) {
        return i == THE_PLAN || isWatcher(i);
    }

    private static boolean isSet(int set) {
        return set >= 0 && set <= ALL_FACTS;
    }

    /** How many k there are for a question of FAIR; with no WATCHERS the 0 is still one. */
    private int fairBound(int what) {
        if (what == 0) {
            return 1;
        }
        if (what == 1) {
            return evening.turns();
        }
        return Math.max(1, evening.watchers.size);
    }

    private void takeEvening() {
        facts.derive(evening);
        screen.show(evening, 0, NONE);
        routes.measure(evening, screen);
        box.shared = false;
        thePlan.clear();
        past.clear();
        kept = 0;
    }

    private Plan keptPlan(int place) {
        return place == 0 ? firstKept : secondKept;
    }

    private void follow(int i, Screen shown) {
        if (i == THE_PLAN) {
            walk.followPlan(evening, shown, thePlan);
        } else {
            walk.followKind(evening, shown, evening.kindOf(i), evening.ownOf(i));
        }
    }

    private static int commonDivisor(int a, int b) {
        int greater = a;
        int less = b;
        // Euclid halves the numbers every two rounds, so 64 rounds do for any int.
        for (int round = 0; round < 64 && less != 0; round++) {
            int rest = greater % less;
            greater = less;
            less = rest;
        }
        return Math.max(1, greater);
    }

    /** Rows of so many numbers each, a few at most. */
    private static final class Rows {
        private final int[] cells = new int[SCENES_MOST * NUMBERS_MOST];
        private final int width;
        private final int limit;
        private int size = 0;

        Rows(int width, int limit) {
            this.width = width;
            this.limit = limit;
        }

        void clear() {
            size = 0;
        }

        boolean add(int[] row) {
            if (size >= limit || row.length < width || (size + 1) * width > cells.length) {
                return false;
            }
            System.arraycopy(row, 0, cells, size * width, width);
            size++;
            return true;
        }

        int cell(int row, int column) {
            if (row < 0 || row >= size || column < 0 || column >= width) {
                return 0;
            }
            return cells[row * width + column];
        }
    }

    /** What a TEXT tells of an evening. */
    private static final class Evening {
        private final Rows stations = new Rows(1, STATIONS_MOST);
        private final Rows scenes = new Rows(5, SCENES_MOST);
        private final Rows breaks = new Rows(3, BREAKS_MOST);
        private final Rows chances = new Rows(4, CHANCES_MOST);
        private final Rows rules = new Rows(3, RULES_MOST);
        private final Rows watchers = new Rows(2, WATCHERS_MOST);
        private int minutes = MINUTES_WITHOUT;
        private int going = GOING_WITHOUT;

        void clear() {
            stations.clear();
            scenes.clear();
            breaks.clear();
            chances.clear();
            rules.clear();
            watchers.clear();
            minutes = MINUTES_WITHOUT;
            going = GOING_WITHOUT;
        }

        int kindOf(int i) {
            return watchers.cell(i, 0);
        }

        int ownOf(int i) {
            return watchers.cell(i, 1);
        }

        int turns() {
            return (minutes + Box.TURN - 1) / Box.TURN;
        }

        /** How many of ten (for each BREAK by chance) it is that just these come. */
        int weightOf(int coming) {
            int weight = 1;
            for (int c = 0; c < chances.size; c++) {
                int chance = chances.cell(c, 3);
                weight *= (coming >> c & 1) != 0 ? chance : CHANCE_WHOLE - chance;
            }
            return weight;
        }
    }

    /** Reads a TEXT item by item. */
    private static final class Reader {
        private static final int NO_ITEM = -1;

        private final int[] number = new int[NUMBERS_MOST];
        private int numbers = 0;

        /** Fills the evening; answers the place of the first FAULT, or NONE. */
        int read(char[] letters, int length, Evening into) {
            into.clear();
            int end = Math.min(length, letters.length);
            int place = 0;
            while (place < end) {
                int next = readNumbers(letters, end, place + 1);
                if (next <= place || !take(letters[place], into)) {
                    return place;
                }
                place = next;
            }
            return NONE;
        }

        /** Answers the place behind the ITEM whose numbers begin here, or NO_ITEM. */
        private int readNumbers(char[] letters, int end, int from) {
            int place = from;
            for (int k = 0; k < NUMBERS_MOST; k++) {
                int figures = figuresAt(letters, end, place);
                place += figures;
                if (figures == 0 || place >= end) {
                    return NO_ITEM;
                }
                number[k] = valueAhead(letters, place, figures);
                numbers = k + 1;
                char behind = letters[place];
                place++;
                if (behind == ';') {
                    return place;
                }
                if (behind != ',') {
                    return NO_ITEM;
                }
            }
            return NO_ITEM;
        }

        private static int figuresAt(char[] letters, int end, int place) {
            int figures = 0;
            while (figures < 2 && place + figures < end && isFigure(letters[place + figures])) {
                figures++;
            }
            return figures;
        }

        private static int valueAhead(char[] letters, int place, int figures) {
            int value = 0;
            for (int p = Math.max(0, place - figures); p < place && p < letters.length; p++) {
                value = 10 * value + letters[p] - '0';
            }
            return value;
        }

        private static boolean isFigure(char letter) {
            return letter >= '0' && letter <= '9';
        }

        private boolean take(char letter, Evening into) {
            switch (letter) {
                case 'n': return takeMinutes(into);
                case 'g': return takeGoing(into);
                case 's': return numbers == 1 && within(0, 0, 9) && into.stations.add(number);
                case 'm': return numbers == 5 && isSpan(into) && within(3, 0, 9)
                    && within(4, 0, NO_FACT) && into.scenes.add(number);
                case 'b': return numbers == 3 && isSpan(into) && into.breaks.add(number);
                case 'u': return numbers == 4 && isSpan(into) && within(3, 0, CHANCE_WHOLE)
                    && into.chances.add(number);
                case 'f': return numbers == 3 && within(0, 0, 7) && within(1, 0, 7)
                    && within(2, 0, 7) && into.rules.add(number);
                case 'w': return numbers == 2 && within(0, 0, KINDS - 1)
                    && within(1, 0, into.stations.size - 1) && into.watchers.add(number);
                default: return false;
            }
        }

        private boolean takeMinutes(Evening into) {
            if (numbers != 1 || !within(0, 1, MINUTES_MOST)) {
                return false;
            }
            into.minutes = number[0];
            return true;
        }

        private boolean takeGoing(Evening into) {
            if (numbers != 1 || !within(0, 0, 3)) {
                return false;
            }
            into.going = number[0];
            return true;
        }

        private boolean isSpan(Evening into) {
            return within(0, 0, into.stations.size - 1) && within(1, 0, MINUTES_MOST - 1)
                && within(2, 0, MINUTES_MOST - 1) && number[1] <= number[2];
        }

        private boolean within(int k, int least, int greatest) {
            return k >= 0 && k < numbers && k < number.length
                && number[k] >= least && number[k] <= greatest;
        }
    }

    /** What follows from each set of FACTS. */
    private static final class Facts {
        private final int[] closed = new int[ALL_FACTS + 1];

        void derive(Evening evening) {
            for (int set = 0; set <= ALL_FACTS; set++) {
                closed[set] = close(evening.rules, set);
            }
        }

        private static int close(Rows rules, int set) {
            int all = set;
            // Each round but the last adds a FACT, and a rule adds one at most once.
            for (int round = 0; round <= RULES_MOST; round++) {
                int before = all;
                for (int r = 0; r < rules.size; r++) {
                    int needed = 1 << rules.cell(r, 0) | 1 << rules.cell(r, 1);
                    if ((all & needed) == needed) {
                        all |= 1 << rules.cell(r, 2);
                    }
                }
                if (all == before) {
                    break;
                }
            }
            return all;
        }

        int following(int set) {
            return closed[set & ALL_FACTS];
        }

        int fewestToAsk(int knows, int set) {
            int best = set & ~knows;
            for (int asked = ALL_FACTS; asked >= 0; asked--) {
                boolean enough = (asked & knows) == 0 && (following(knows | asked) & set) == set;
                // Going down, an equal number of FACTS is a lower set.
                if (enough && Integer.bitCount(asked) <= Integer.bitCount(best)) {
                    best = asked;
                }
            }
            return best;
        }
    }

    /** What each STATION shows in each minute, some BREAKS coming. */
    private static final class Screen {
        private final int[] worth = new int[STATIONS_MOST * MINUTES_MOST];
        private final int[] fact = new int[STATIONS_MOST * MINUTES_MOST];
        private final int[] broken = new int[STATIONS_MOST * MINUTES_MOST];

        /** Shows all SCENES but one (none left out: NONE) and the BREAKS by chance that come. */
        void show(Evening evening, int coming, int without) {
            showStations(evening.stations);
            showScenes(evening.scenes, without);
            for (int b = 0; b < evening.breaks.size; b++) {
                showBreak(evening.breaks, b);
            }
            for (int c = 0; c < evening.chances.size; c++) {
                if ((coming >> c & 1) != 0) {
                    showBreak(evening.chances, c);
                }
            }
        }

        void showNight(Evening evening, int z) {
            showStations(evening.stations);
            showScenes(evening.scenes, NONE);
            for (int s = 0; s < evening.stations.size; s++) {
                for (int t = 0; t < evening.minutes; t++) {
                    if (isDrawn(z, t, s)) {
                        put(s, t, 0, NO_FACT, 1);
                    }
                }
            }
        }

        private static boolean isDrawn(int z, int t, int s) {
            long x = 7919L * z + 6151L * t + 3571L * s + 1;
            return x * x % 65521 % 4 == 0;
        }

        private void showStations(Rows stations) {
            for (int s = 0; s < stations.size; s++) {
                for (int t = 0; t < MINUTES_MOST; t++) {
                    put(s, t, stations.cell(s, 0), NO_FACT, 0);
                }
            }
        }

        private void showScenes(Rows scenes, int without) {
            for (int m = 0; m < scenes.size; m++) {
                if (m != without) {
                    showScene(scenes, m);
                }
            }
        }

        private void showScene(Rows scenes, int m) {
            for (int t = scenes.cell(m, 1); t <= scenes.cell(m, 2); t++) {
                put(scenes.cell(m, 0), t, scenes.cell(m, 3), scenes.cell(m, 4), 0);
            }
        }

        private void showBreak(Rows spans, int b) {
            for (int t = spans.cell(b, 1); t <= spans.cell(b, 2); t++) {
                put(spans.cell(b, 0), t, 0, NO_FACT, 1);
            }
        }

        private void put(int s, int t, int itsWorth, int itsFact, int isBroken) {
            if (isThere(s, t)) {
                int place = s * MINUTES_MOST + t;
                worth[place] = itsWorth;
                fact[place] = itsFact;
                broken[place] = isBroken;
            }
        }

        private static boolean isThere(int s, int t) {
            return s >= 0 && s < STATIONS_MOST && t >= 0 && t < MINUTES_MOST;
        }

        int worthOf(int s, int t) {
            return isThere(s, t) ? worth[s * MINUTES_MOST + t] : 0;
        }

        int factOf(int s, int t) {
            return isThere(s, t) ? fact[s * MINUTES_MOST + t] : NO_FACT;
        }

        /** The FACT as a bit; no bit for none. */
        int factBit(int s, int t) {
            return isThere(s, t) ? 1 << fact[s * MINUTES_MOST + t] & ALL_FACTS : 0;
        }

        boolean isBreak(int s, int t) {
            return isThere(s, t) && broken[s * MINUTES_MOST + t] != 0;
        }
    }

    /** An evening as somebody passes it, minute by minute. */
    private static final class Walk {
        private final int[] place = new int[MINUTES_MOST];
        private final int[] goal = new int[MINUTES_MOST];
        private int here = 0;
        private int freeFrom = 0;
        private int worth = 0;
        private int seen = 0;
        private int goings = 0;

        void followKind(Evening evening, Screen screen, int kind, int own) {
            start(own);
            int stations = evening.stations.size;
            for (int t = 0; t < evening.minutes; t++) {
                if (t >= freeFrom) {
                    goTo(t, wish(screen, stations, kind, own, t), evening.going);
                }
                look(screen, t);
            }
        }

        void followPlan(Evening evening, Screen screen, Plan plan) {
            sortOut(plan, evening.going);
            start(plan.start);
            for (int t = 0; t < evening.minutes && t < MINUTES_MOST; t++) {
                if (goal[t] != NONE) {
                    goTo(t, goal[t], evening.going);
                }
                look(screen, t);
            }
        }

        /** Sets the goals of goings that can be; answers the first that can not, or NONE. */
        int sortOut(Plan plan, int going) {
            Arrays.fill(goal, NONE);
            int wrong = NONE;
            int last = -1;
            start(plan.start);
            for (int k = 0; k < plan.size; k++) {
                int t = plan.minuteOf(k);
                int s = plan.stationOf(k);
                if (t > last && t < MINUTES_MOST && t >= freeFrom && s != here) {
                    goal[t] = s;
                    last = t;
                    goTo(t, s, going);
                } else if (wrong == NONE) {
                    wrong = k;
                }
            }
            return wrong;
        }

        int placeAt(int t) {
            return t >= 0 && t < MINUTES_MOST ? place[t] : NONE;
        }

        private void start(int station) {
            here = station;
            freeFrom = 0;
            worth = 0;
            seen = 0;
            goings = 0;
        }

        private void goTo(int t, int station, int going) {
            if (station != here) {
                here = station;
                freeFrom = t + going;
                goings++;
            }
        }

        private void look(Screen screen, int t) {
            if (t < 0 || t >= MINUTES_MOST) {
                return;
            }
            if (t < freeFrom) {
                place[t] = NONE;
                return;
            }
            place[t] = here;
            worth += screen.worthOf(here, t);
            seen |= screen.factBit(here, t);
        }

        private int wish(Screen screen, int stations, int kind, int own, int t) {
            switch (kind) {
                case OVER_KIND: return unbroken(screen, stations, t);
                case BACK_KIND: return screen.isBreak(own, t) ? unbroken(screen, stations, t) : own;
                case BEST_KIND: return worthiest(screen, stations, t);
                default: return here;
            }
        }

        /** The next STATION without a BREAK, from here on and round. */
        private int unbroken(Screen screen, int stations, int t) {
            int s = here;
            for (int k = 0; k < stations; k++) {
                if (!screen.isBreak(s, t)) {
                    return s;
                }
                s = s + 1 < stations ? s + 1 : 0;
            }
            return here;
        }

        private int worthiest(Screen screen, int stations, int t) {
            int best = here;
            for (int s = 0; s < stations; s++) {
                if (screen.worthOf(s, t) > screen.worthOf(best, t)) {
                    best = s;
                }
            }
            return best;
        }
    }

    /** THE PLAN, or a KEPT one: where it begins and the goings told. */
    private static final class Plan {
        private final int[] minutes = new int[GOINGS_MOST];
        private final int[] stations = new int[GOINGS_MOST];
        private int size = 0;
        private int start = 0;

        void clear() {
            size = 0;
            start = 0;
        }

        boolean add(int t, int s) {
            if (size < 0 || size >= GOINGS_MOST) {
                return false;
            }
            minutes[size] = t;
            stations[size] = s;
            size++;
            return true;
        }

        void dropLast() {
            size = Math.max(0, size - 1);
        }

        void copyFrom(Plan other) {
            clear();
            start = other.start;
            for (int k = 0; k < other.size; k++) {
                add(other.minuteOf(k), other.stationOf(k));
            }
        }

        int minuteOf(int k) {
            return k >= 0 && k < GOINGS_MOST ? minutes[k] : 0;
        }

        int stationOf(int k) {
            return k >= 0 && k < GOINGS_MOST ? stations[k] : 0;
        }
    }

    /** What can be UNDONE: a going, or the STATION where THE PLAN began before. */
    private static final class Past {
        private static final int A_GOING = -1;

        private final int[] changes = new int[UNDOINGS_MOST];
        private int size = 0;

        void clear() {
            size = 0;
        }

        void push(int change) {
            if (size >= UNDOINGS_MOST) {
                // The oldest one is given up: only the last ones can be UNDONE.
                System.arraycopy(changes, 1, changes, 0, UNDOINGS_MOST - 1);
                size = UNDOINGS_MOST - 1;
            }
            if (size >= 0) {
                changes[size] = change;
                size++;
            }
        }

        int pop() {
            if (size <= 0 || size > UNDOINGS_MOST) {
                return A_GOING;
            }
            size--;
            return changes[size];
        }
    }

    /** MOST: the greatest WORTH from each minute of each STATION on. */
    private static final class Routes {
        private final int[] greatest = new int[STATIONS_MOST * MINUTES_MOST];
        private int minutes = 0;
        private int firstMinute = NONE;
        private int firstStation = NONE;

        void measure(Evening evening, Screen screen) {
            minutes = Math.min(evening.minutes, MINUTES_MOST);
            for (int t = minutes - 1; t >= 0; t--) {
                for (int s = 0; s < evening.stations.size && s < STATIONS_MOST; s++) {
                    greatest[s * MINUTES_MOST + t] = greatestAt(evening, screen, s, t);
                }
            }
        }

        int worthFrom(int s, int t) {
            if (s < 0 || s >= STATIONS_MOST || t < 0 || t >= minutes) {
                return 0;
            }
            return greatest[s * MINUTES_MOST + t];
        }

        /** Finds the latest first going of an evening of the greatest WORTH. */
        void findFirstGoing(Evening evening, Screen screen, int s, int t) {
            firstMinute = NONE;
            firstStation = NONE;
            int left = worthFrom(s, t);
            for (int u = t; u < minutes; u++) {
                int goal = goalWorth(evening, screen, s, u, left);
                if (goal != NONE) {
                    firstMinute = u;
                    firstStation = goal;
                }
                left -= screen.worthOf(s, u);
            }
            if (left == 0) {
                firstMinute = NONE;
                firstStation = NONE;
            }
        }

        private int greatestAt(Evening evening, Screen screen, int s, int t) {
            int best = screen.worthOf(s, t) + worthFrom(s, t + 1);
            for (int goal = 0; goal < evening.stations.size; goal++) {
                if (goal != s) {
                    best = Math.max(best, worthByGoing(screen, goal, t, evening.going));
                }
            }
            return best;
        }

        private int worthByGoing(Screen screen, int goal, int t, int going) {
            if (going == 0) {
                return screen.worthOf(goal, t) + worthFrom(goal, t + 1);
            }
            return worthFrom(goal, t + going);
        }

        /** The lowest STATION to which going at a minute is still worth so much, or NONE. */
        private int goalWorth(Evening evening, Screen screen, int s, int t, int worth) {
            for (int goal = 0; goal < evening.stations.size; goal++) {
                if (goal != s && worthByGoing(screen, goal, t, evening.going) == worth) {
                    return goal;
                }
            }
            return NONE;
        }
    }

    /** UNDERSTAND and SOONEST: the fewest goings for each set of FACTS, minute by minute. */
    private static final class Learning {
        private static final int GOINGS_LEARNING = 6;
        private static final int UNREACHED = 99;
        private static final int SETS = ALL_FACTS + 1;
        /** A going ends 3 minutes later at most, so four minutes are open at once. */
        private static final int OPEN_MINUTES = 4;

        private final int[] fewest = new int[OPEN_MINUTES * STATIONS_MOST * SETS];
        private final Screen screen;
        private final Facts facts;
        private int stations = 0;
        private int going = 0;
        private int allTold = 0;
        private int end = 0;
        private int fewestGoings = NONE;
        private int minutesByFewest = NONE;
        private int minutesByAny = NONE;
        /** So many goings or more can better nothing: the sooner has come ahead of them. */
        private int goingsToBeat = 0;

        Learning(Screen screen, Facts facts) {
            this.screen = screen;
            this.facts = facts;
            Arrays.fill(fewest, UNREACHED);
        }

        void learn(Evening evening, int from, int set) {
            stations = Math.min(evening.stations.size, STATIONS_MOST);
            going = evening.going;
            fewestGoings = NONE;
            minutesByFewest = NONE;
            minutesByAny = NONE;
            goingsToBeat = GOINGS_LEARNING + 1;
            survey(evening.minutes);
            if ((allTold & set) != set) {
                return;
            }
            reach(0, from, 0, 0);
            for (int t = 0; t <= end; t++) {
                for (int s = 0; s < stations; s++) {
                    takeOut(t, s, set);
                }
            }
        }

        /** Nothing is learnt behind the last minute that tells a FACT. */
        private void survey(int minutes) {
            allTold = 0;
            end = 0;
            for (int t = 0; t < minutes; t++) {
                for (int s = 0; s < stations; s++) {
                    if (screen.factBit(s, t) != 0) {
                        allTold |= screen.factBit(s, t);
                        end = t + 1;
                    }
                }
            }
            allTold = facts.following(allTold);
        }

        /** Empties the places too: they serve again four minutes later, and in the next call. */
        private void takeOut(int t, int s, int set) {
            int first = placeOf(t, s, 0);
            for (int knows = 0; knows <= allTold && first + knows < fewest.length; knows++) {
                int goings = fewest[first + knows];
                if (goings != UNREACHED) {
                    fewest[first + knows] = UNREACHED;
                    passOn(t, s, knows, goings, set);
                }
            }
        }

        private void passOn(int t, int s, int knows, int goings, int set) {
            if ((knows & set) == set) {
                note(t, goings);
                return;
            }
            see(t, s, knows, goings);
            for (int goal = 0; goal < stations; goal++) {
                if (goal != s && going == 0) {
                    see(t, goal, knows, goings + 1);
                } else if (goal != s) {
                    reach(t + going, goal, knows, goings + 1);
                }
            }
        }

        private void note(int t, int goings) {
            if (minutesByAny == NONE) {
                minutesByAny = t;
            }
            if (goings < goingsToBeat) {
                goingsToBeat = goings;
                fewestGoings = goings;
                minutesByFewest = t;
            }
        }

        private void see(int t, int s, int knows, int goings) {
            reach(t + 1, s, facts.following(knows | screen.factBit(s, t)), goings);
        }

        private void reach(int t, int s, int knows, int goings) {
            if (t <= end && goings < goingsToBeat && isThere(t, s, knows)) {
                int place = placeOf(t, s, knows);
                fewest[place] = Math.min(fewest[place], goings);
            }
        }

        private static boolean isThere(int t, int s, int knows) {
            return t >= 0 && s >= 0 && s < STATIONS_MOST && knows >= 0 && knows < SETS;
        }

        private static int placeOf(int t, int s, int knows) {
            return (t % OPEN_MINUTES * STATIONS_MOST + s) * SETS + knows;
        }
    }

    /** FAIR: the best way to hold the BOX by turns. */
    private static final class Box {
        private static final int TURN = 10;
        private static final int TURNS_MOST = 6;
        private static final int WAYS_MOST = 4096;
        private static final int WORTH_BEYOND_ALL = 1000;

        private final int[] whole = new int[TURNS_MOST * STATIONS_MOST];
        private final int[] late = new int[TURNS_MOST * STATIONS_MOST];
        private final int[] holders = new int[TURNS_MOST];
        private final int[] bestHolders = new int[TURNS_MOST];
        private final int[] worth = new int[STATIONS_MOST];
        private final int[] bestWorth = new int[STATIONS_MOST];
        private int turns = 0;
        private int least = NONE;
        private boolean shared = false;

        /** Tries all ways in their order; the answer stands until another evening is LAID. */
        void share(Evening evening, Screen screen) {
            if (shared) {
                return;
            }
            shared = true;
            turns = Math.min(evening.turns(), TURNS_MOST);
            weigh(evening, screen);
            least = NONE;
            Arrays.fill(holders, 0);
            boolean more = true;
            for (int way = 0; way < WAYS_MOST && more; way++) {
                tryWay(evening);
                more = nextWay(evening.watchers.size);
            }
        }

        int holder(int k) {
            return k >= 0 && k < TURNS_MOST ? bestHolders[k] : NONE;
        }

        int has(int station) {
            return station >= 0 && station < STATIONS_MOST ? bestWorth[station] : 0;
        }

        private void weigh(Evening evening, Screen screen) {
            for (int k = 0; k < turns; k++) {
                int from = k * TURN;
                int to = Math.min(from + TURN, evening.minutes);
                for (int s = 0; s < STATIONS_MOST; s++) {
                    whole[k * STATIONS_MOST + s] = shown(screen, s, from, to);
                    late[k * STATIONS_MOST + s] = shown(screen, s, from + evening.going, to);
                }
            }
        }

        private static int shown(Screen screen, int s, int from, int to) {
            int sum = 0;
            for (int t = from; t < to; t++) {
                sum += screen.worthOf(s, t);
            }
            return sum;
        }

        private void tryWay(Evening evening) {
            Arrays.fill(worth, 0);
            int before = NONE;
            for (int k = 0; k < turns; k++) {
                int on = evening.ownOf(holders[k]);
                if (on >= 0 && on < STATIONS_MOST) {
                    boolean changes = before != NONE && before != on;
                    int place = k * STATIONS_MOST + on;
                    worth[on] += changes ? late[place] : whole[place];
                }
                before = on;
            }
            int itsLeast = leastOf(evening);
            if (itsLeast > least) {
                least = itsLeast;
                System.arraycopy(holders, 0, bestHolders, 0, TURNS_MOST);
                System.arraycopy(worth, 0, bestWorth, 0, STATIONS_MOST);
            }
        }

        private int leastOf(Evening evening) {
            int lowest = WORTH_BEYOND_ALL;
            for (int i = 0; i < evening.watchers.size; i++) {
                int own = evening.ownOf(i);
                if (own >= 0 && own < STATIONS_MOST) {
                    lowest = Math.min(lowest, worth[own]);
                }
            }
            return lowest;
        }

        /** The last turn changes first, so that the first way comes first. */
        private boolean nextWay(int watchers) {
            for (int k = turns - 1; k >= 0; k--) {
                if (holders[k] + 1 < watchers) {
                    holders[k]++;
                    return true;
                }
                holders[k] = 0;
            }
            return false;
        }
    }
}
