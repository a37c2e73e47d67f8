import java.util.Arrays;

/** A sail for every wind. The document (shared/DOC.md) says what each call answers. */
public final class NineSails {
    public static final int NONE = -1, BAD = -2, STATE = -3, FULL = -4;
    public static final long NO = Long.MIN_VALUE;

    private static final int NOTHING = -11, CAST = -12, PLACE = -13, SIZE = -14;
    /** Where miles may be below 0, the refusals lie below all that miles can be. */
    private static final int MILES_NONE = -1001, MILES_REFUSED = -1002;
    /** No sail: within the class, and as it is answered. */
    private static final int NO_SAIL = -1, NO_SAIL_SHOWN = -5;

    private static final int SAILS = 6, WINDS = 4, DAY = 24, LAST_HOUR = 99;
    private static final int RACES = 5, CLAUSES = 10, TEXT = 100, NESTED = 4;
    private static final int RULES = 10, TOLD_HOURS = 5, GUSTS = 6;
    private static final int TAPES = 6, ITEMS = 60, TRACE = 20;
    private static final int MOST_SPEED = 99, HUNDRED = 100, TEN = 10, JUDGED_SHORT = 100;

    private static final int GO = 0, TEAR = 1, LOSE = 2, WIND = 3;
    private static final int NOT = 2000, AND = 2001, OR = 2002;

    private static final int TABLE = 1, HOLD = 2, SAFE = 3, BEST = 4, WATCH = 5, TOLD = 6;
    private static final int KINDS = 7, ACTS = 3, PICKS = 0, REEFS = 1, TELLS = 2;
    /** By kinds: the kind above each. */
    private static final int[] ABOVE = {-1, 0, 0, 1, 2, 0, 5};
    /** By kinds and acts: the number of the body, 0 where the kind has none. */
    private static final int[] BODIES = {
        10, 11, 12,
        0, 20, 0,
        30, 0, 0,
        50, 51, 0,
        0, 0, 60,
        0, 0, 40,
        71, 70, 0,
    };
    /** Far more than any act goes through. */
    private static final int DEEPEST_ACT = 40;

    private static final int BYTES = 0, SHORTS = 1, INTS = 2, LONGS = 3, BOOLEANS = 4;

    /** What is asked of the hours ahead. */
    private static final int MEAN = 0, SURE = 1, WORST = 2;
    private static final int MOST_HOURS = 4, MOST_SURE = 400;
    /** By hours: an hour's tearing is of a hundred and its wind of ten, and the last hour's matter no more. */
    private static final long[] WHOLE_ODDS = {1L, 1L, 1000L, 1000000L, 1000000000L};

    private final Scene now = new Scene();
    private final Scene kept = new Scene();
    /** A copy to try things on, so that what is asked changes nothing. */
    private final Scene trial = new Scene();
    private boolean imaged;

    private final int[] weights = new int[SAILS];
    private final int[] needs = new int[SAILS];

    private final Reader reader = new Reader();
    private final Race[] races = new Race[RACES];
    private final Race calm = new Race();
    private int raceCount;
    /** SPEED, then TEARS, by sail, wind and hour of the day, as the race that holds says; -1: not reckoned yet. */
    private final int[] paces = new int[2 * SAILS * WINDS * DAY];

    private final Rule[] rules = new Rule[RULES];
    private int ruleCount;
    /** Rules of nobody, for EDGE and LINES. */
    private final Rule anyHold = new Rule(0, HOLD, 0);
    private final Rule anyWatch = new Rule(0, WATCH, 0);
    private final int[] bestRow = new int[WINDS];

    private final Tape[] tapes = new Tape[TAPES];
    private final int[] bodies = new int[TRACE];
    private int bodyCount;

    public NineSails() {
        for (int i = 0; i < RACES; i++) {
            races[i] = new Race();
        }
        for (int i = 0; i < TAPES; i++) {
            tapes[i] = new Tape();
        }
        Arrays.fill(paces, -1);
    }

    // ---- sails, races

    public int sail(int weight, int hands) {
        if (weight < 0 || weight > 9 || hands < 1 || hands > 9) {
            return BAD;
        }
        int sail = now.sails;
        if (sail >= SAILS) {
            return FULL;
        }
        weights[sail] = weight;
        needs[sail] = hands;
        now.whole |= 1 << sail;
        now.aboard |= 1 << sail;
        now.sails = sail + 1;
        return sail;
    }

    public int make(int sail, int what, boolean is) {
        if (!isSail(sail) || what < 0 || what > 1) {
            return NONE;
        }
        if (now.up == sail && !is) {
            return STATE;
        }
        int bit = 1 << sail;
        int was = what == 0 ? now.whole : now.aboard;
        int then = is ? was | bit : was & ~bit;
        if (what == 0) {
            now.whole = then;
        } else {
            now.aboard = then;
        }
        return was >> sail & 1;
    }

    public int of(int sail, int what) {
        if (!isSail(sail)) {
            return NONE;
        }
        switch (what) {
            case 0: return weights[sail];
            case 1: return needs[sail];
            case 2: return now.whole >> sail & 1;
            case 3: return now.aboard >> sail & 1;
            case 4: return may(now, sail) ? 1 : 0;
            default: return NONE;
        }
    }

    public int set(int what, int n) {
        if (what < 0 || what > 2) {
            return NONE;
        }
        int most = what == 0 ? 9 : what == 1 ? WINDS - 1 : LAST_HOUR;
        if (n < 0 || n > most) {
            return BAD;
        }
        int was;
        if (what == 0) {
            was = now.hands;
            now.hands = n;
        } else if (what == 1) {
            was = now.wind;
            now.wind = n;
        } else {
            was = now.hour;
            now.hour = n;
        }
        return was;
    }

    public int hoist(int sail) {
        if (sail != NO_SAIL && !isSail(sail)) {
            return NONE;
        }
        if (sail != NO_SAIL && !may(now, sail)) {
            return STATE;
        }
        int was = now.up;
        now.up = sail;
        return shown(was);
    }

    public int ship(int what) {
        switch (what) {
            case 0: return shown(now.up);
            case 1: return now.wind;
            case 2: return now.hour;
            case 3: return now.miles;
            case 4: return now.hands;
            default: return MILES_NONE;
        }
    }

    public int feed(int bytes, int n) {
        if (n < 0 || n > 4) {
            return BAD;
        }
        if (reader.length + n > TEXT) {
            return FULL;
        }
        for (int i = n - 1; i >= 0; i--) {
            reader.take(bytes >> 8 * i & 255);
        }
        return reader.length;
    }

    public int race() {
        if (raceCount >= RACES) {
            return FULL;
        }
        int fault = reader.fault(races[raceCount]);
        reader.length = 0;
        if (fault >= 0) {
            return -10 - fault;
        }
        now.race = raceCount;
        raceCount++;
        Arrays.fill(paces, -1);
        return now.race;
    }

    public int speed(int sail, int wind, int hour, int what) {
        if (!isSail(sail) || !isWind(wind) || what < 0 || what > 1) {
            return NONE;
        }
        if (hour < 0 || hour > LAST_HOUR) {
            return BAD;
        }
        return pace(what, sail, wind, hour);
    }

    public int follows(int a, int b) {
        if (!isWind(a) || !isWind(b)) {
            return NONE;
        }
        return holding().odds[a * WINDS + b];
    }

    // ---- rules, hours

    public int rule(int kind, int v) {
        if (kind < 0 || kind >= KINDS) {
            return NONE;
        }
        if (v < 0 || v > 9) {
            return BAD;
        }
        if (ruleCount >= RULES) {
            return FULL;
        }
        rules[ruleCount] = new Rule(ruleCount, kind, v);
        ruleCount++;
        return ruleCount - 1;
    }

    public int line(int rule, int wind, int sail) {
        Rule asked = ruleOf(rule);
        if (asked == null || !isWind(wind) || !isTellable(sail)) {
            return NONE;
        }
        if (asked.kind != WATCH && asked.kind != TOLD) {
            return STATE;
        }
        int was = asked.lines[wind];
        asked.lines[wind] = sail;
        return shown(was);
    }

    public int told(int rule, int hour, int sail) {
        Rule asked = ruleOf(rule);
        if (asked == null || hour < 0 || hour >= TOLD_HOURS || !isTellable(sail)) {
            return NONE;
        }
        if (asked.kind != TOLD) {
            return STATE;
        }
        int was = asked.row[hour];
        asked.row[hour] = sail;
        return shown(was);
    }

    public int picks(int rule) {
        Rule asked = ruleOf(rule);
        if (asked == null) {
            return NONE;
        }
        return shown(choice(asked, now));
    }

    public int go(int rule, boolean tore, int wind) {
        Rule asked = ruleOf(rule);
        if (asked == null || !isWind(wind)) {
            return MILES_NONE;
        }
        if (now.hour >= LAST_HOUR) {
            return MILES_REFUSED;
        }
        int chosen = choice(asked, now);
        int tears = pace(TEAR, chosen, now.wind, now.hour);
        int odds = (tore ? tears : HUNDRED - tears) * holding().odds[now.wind * WINDS + wind];
        if (odds == 0) {
            return MILES_REFUSED;
        }
        int made = milesBy(now, chosen);
        now.miles += made;
        now.up = tore ? NO_SAIL : chosen;
        if (tore) {
            now.whole &= ~(1 << chosen);
        }
        now.wind = wind;
        now.hour++;
        return made;
    }

    public long mean(int rule, int n, int part) {
        Rule asked = ruleOf(rule);
        if (asked == null || !isHours(n) || !isPart(part)) {
            return NO;
        }
        trial.become(now);
        return lowest(ahead(MEAN, asked, n, 0), WHOLE_ODDS[n], part);
    }

    public long sure(int rule, int n, int m, int part) {
        Rule asked = ruleOf(rule);
        if (asked == null || !isHours(n) || m < -MOST_SURE || m > MOST_SURE || !isPart(part)) {
            return NO;
        }
        trial.become(now);
        return lowest(ahead(SURE, asked, n, m), WHOLE_ODDS[n], part);
    }

    public int edge(int n) {
        if (!isHours(n)) {
            return BAD;
        }
        trial.become(now);
        int best = 0;
        long most = 0;
        for (int v = 0; v <= 9; v++) {
            anyHold.v = v;
            long made = ahead(MEAN, anyHold, n, 0);
            if (v == 0 || made > most) {
                best = v;
                most = made;
            }
        }
        return best;
    }

    public int few(int rule, int k, int n) {
        Rule asked = ruleOf(rule);
        if (asked == null) {
            return NONE;
        }
        if (k < 0 || k > SAILS || n < 1 || n > 3) {
            return BAD;
        }
        trial.become(now);
        // A sail that may not be up now never may within these hours: a set without it is as good, and fewer.
        int useful = usefulSails();
        int best = 0;
        long most = 0;
        for (int set = 0; set <= useful; set++) {
            if ((set & ~useful) != 0 || Integer.bitCount(set) > k) {
                continue;
            }
            trial.aboard = set;
            trial.up = now.up != NO_SAIL && (set >> now.up & 1) == 1 ? now.up : NO_SAIL;
            long made = ahead(MEAN, asked, n, 0);
            if (set == 0 || made > most || made == most && Integer.bitCount(set) < Integer.bitCount(best)) {
                best = set;
                most = made;
            }
        }
        return best;
    }

    public long torn(int rule, int sail, int n, int part) {
        Rule asked = ruleOf(rule);
        if (asked == null || !isSail(sail) || (now.whole >> sail & 1) == 0 || !isHours(n) || !isPart(part)) {
            return NO;
        }
        trial.become(now);
        long asIs = ahead(MEAN, asked, n, 0);
        trial.whole &= ~(1 << sail);
        if (trial.up == sail) {
            trial.up = NO_SAIL;
        }
        return lowest(asIs - ahead(MEAN, asked, n, 0), WHOLE_ODDS[n], part);
    }

    public long sleep(int rule, int n, int part) {
        Rule asked = ruleOf(rule);
        if (asked == null || !isHours(n) || !isPart(part)) {
            return NO;
        }
        trial.become(now);
        long asIs = ahead(MEAN, asked, n, 0);
        trial.hands = Math.max(0, trial.hands - 1);
        return lowest(asIs - ahead(MEAN, asked, n, 0), WHOLE_ODDS[n], part);
    }

    public int lines(int n, int wind) {
        if (!isWind(wind)) {
            return NONE;
        }
        if (n < 1 || n > 2) {
            return BAD;
        }
        trial.become(now);
        long most = 0;
        for (int sail = NO_SAIL; sail < now.sails; sail++) {
            // A line that tells a sail that may not be up works as one that tells none, which comes first.
            if (sail != NO_SAIL && !may(now, sail)) {
                continue;
            }
            long made = bestWith(sail, n);
            if (sail == NO_SAIL || made > most || made == most && isEarlierRow(anyWatch.lines, bestRow)) {
                most = made;
                System.arraycopy(anyWatch.lines, 0, bestRow, 0, WINDS);
            }
        }
        return shown(bestRow[wind]);
    }

    // ---- squalls

    public int squall(int wind) {
        if (wind == -1) {
            now.gusts = 0;
            return 0;
        }
        if (!isWind(wind)) {
            return NONE;
        }
        if (now.gusts >= GUSTS) {
            return FULL;
        }
        now.squall[now.gusts] = wind;
        now.gusts++;
        return now.gusts;
    }

    public int made(int rule) {
        Rule asked = ruleOf(rule);
        if (asked == null) {
            return MILES_NONE;
        }
        trial.become(now);
        int miles = 0;
        for (int i = 0; i < now.gusts; i++) {
            trial.wind = now.squall[i];
            int chosen = choice(asked, trial);
            miles += milesBy(trial, chosen);
            trial.up = chosen;
            trial.hour++;
        }
        return miles;
    }

    public int worst(int rule, int n) {
        Rule asked = ruleOf(rule);
        if (asked == null) {
            return MILES_NONE;
        }
        if (!isHours(n)) {
            return MILES_REFUSED;
        }
        trial.become(now);
        return (int) ahead(WORST, asked, n, 0);
    }

    // ---- judging, the image, acts, tapes

    public int judge(int tape, int i) {
        Tape log = tapeOf(tape);
        if (log == null) {
            return NONE;
        }
        if (log.sort != BYTES && log.sort != Tape.EMPTY) {
            return CAST;
        }
        trial.become(now);
        for (int hour = 0; hour < now.gusts; hour++) {
            if (i < 0 || i >= log.length - hour) {
                return JUDGED_SHORT + hour;
            }
            long sail = log.items[i + hour];
            if (sail < 0 || sail >= SAILS || !may(trial, (int) sail)) {
                return hour;
            }
            trial.up = (int) sail;
        }
        return NO_SAIL_SHOWN;
    }

    public int image() {
        kept.become(now);
        imaged = true;
        return now.sails;
    }

    public int undo() {
        if (!imaged) {
            return STATE;
        }
        int sails = now.sails;
        int since = -1 << kept.sails;
        int wholeSince = now.whole & since;
        boolean sameRace = now.race == kept.race;
        now.become(kept);
        now.sails = sails;
        now.whole = kept.whole | wholeSince;
        if (!sameRace) {
            Arrays.fill(paces, -1);
        }
        return kept.sails;
    }

    public int act(int rule, int act, int x) {
        bodyCount = 0;
        Rule asked = ruleOf(rule);
        if (asked == null || act < 0 || act >= ACTS) {
            return 0;
        }
        return perform(asked, asked.kind, act, x, 0);
    }

    public int trace(int i) {
        if (i < 0 || i >= TRACE || i >= bodyCount) {
            return NONE;
        }
        return bodies[i];
    }

    public int taken(int rule, int k) {
        if (k < 0 || k >= KINDS) {
            return BAD;
        }
        Rule asked = ruleOf(rule);
        if (asked == null) {
            return NOTHING;
        }
        int kind = asked.kind;
        for (int i = 0; i < KINDS && kind >= 0; i++) {
            if (kind == k) {
                return asked.kind;
            }
            kind = ABOVE[kind];
        }
        return CAST;
    }

    public int count(int what) {
        switch (what) {
            case 0: return now.sails;
            case 1: return raceCount;
            case 2: return ruleCount;
            case 3: return now.gusts;
            case 4: return reader.length;
            case 5: return bodyCount;
            default: return BAD;
        }
    }

    public int tape(int tape, int sort, int n) {
        Tape asked = tapeOf(tape);
        if (asked == null) {
            return NONE;
        }
        if (sort == Tape.EMPTY) {
            asked.begin(Tape.EMPTY, 0);
            return 1;
        }
        if (sort < BYTES || sort > BOOLEANS || n > ITEMS) {
            return BAD;
        }
        if (n < 0) {
            return SIZE;
        }
        asked.begin(sort, n);
        return 1;
    }

    public int item(int tape, int i, long v) {
        Tape asked = tapeOf(tape);
        if (asked == null) {
            return NONE;
        }
        if (asked.sort == Tape.EMPTY) {
            return NOTHING;
        }
        if (i < 0 || i >= asked.length) {
            return PLACE;
        }
        asked.items[i] = asked.fitted(v);
        return 1;
    }

    public long read(int tape, int i) {
        Tape asked = tapeOf(tape);
        if (asked == null || asked.sort == Tape.EMPTY || i < 0 || i >= asked.length) {
            return NO;
        }
        return asked.items[i];
    }

    public int shift(int tape, int i, int other, int j, int n) {
        Tape from = tapeOf(tape);
        Tape to = tapeOf(other);
        if (from == null || to == null) {
            return NONE;
        }
        if (from.sort == Tape.EMPTY || to.sort == Tape.EMPTY) {
            return NOTHING;
        }
        if (from.sort != to.sort) {
            return CAST;
        }
        if (!from.reaches(i, n) || !to.reaches(j, n)) {
            return PLACE;
        }
        System.arraycopy(from.items, i, to.items, j, n);
        return n;
    }

    // ---- what numbers may be

    private boolean isSail(int sail) {
        return sail >= 0 && sail < now.sails;
    }

    private static boolean isWind(int wind) {
        return wind >= 0 && wind < WINDS;
    }

    private static boolean isTellable(int sail) {
        return sail >= NO_SAIL && sail < SAILS;
    }

    private static boolean isHours(int n) {
        return n >= 1 && n <= MOST_HOURS;
    }

    private static boolean isPart(int part) {
        return part == 0 || part == 1;
    }

    private static int shown(int sail) {
        return sail == NO_SAIL ? NO_SAIL_SHOWN : sail;
    }

    private Rule ruleOf(int rule) {
        return rule >= 0 && rule < ruleCount ? rules[rule] : null;
    }

    private Tape tapeOf(int tape) {
        return tape >= 0 && tape < TAPES ? tapes[tape] : null;
    }

    private Race holding() {
        return now.race >= 0 && now.race < raceCount ? races[now.race] : calm;
    }

    // ---- sails in winds

    /** SPEED (GO) or TEARS (TEAR), 0 without a sail; reckoned once for each race that holds. */
    private int pace(int word, int sail, int wind, int hour) {
        if (sail < 0 || sail >= SAILS) {
            return 0;
        }
        int time = hour % DAY;
        int at = ((word * SAILS + sail) * WINDS + wind) * DAY + time;
        if (paces[at] < 0) {
            int most = word == GO ? MOST_SPEED : HUNDRED;
            paces[at] = Math.min(most, holding().total(word, sail, weights[sail], wind, time));
        }
        return paces[at];
    }

    private boolean may(Scene scene, int sail) {
        if (sail < 0 || sail >= scene.sails) {
            return false;
        }
        if ((scene.whole & scene.aboard & 1 << sail) == 0) {
            return false;
        }
        return scene.up == sail || needs[sail] <= scene.hands;
    }

    private int usefulSails() {
        int useful = 0;
        for (int sail = 0; sail < now.sails; sail++) {
            if (may(now, sail)) {
                useful |= 1 << sail;
            }
        }
        return useful;
    }

    /** The miles of an hour with the chosen sail (or none) in a scene in which the one before is still up. */
    private int milesBy(Scene scene, int chosen) {
        int lost = chosen != NO_SAIL && chosen != scene.up ? holding().loss : 0;
        return pace(GO, chosen, scene.wind, scene.hour) - lost;
    }

    // ---- what rules pick

    private int choice(Rule rule, Scene scene) {
        switch (rule.kind) {
            case TABLE: return fastest(scene, scene.wind);
            case HOLD: {
                int fast = fastest(scene, scene.wind);
                int gain = pace(GO, fast, scene.wind, scene.hour) - pace(GO, scene.up, scene.wind, scene.hour);
                return gain >= rule.v ? fast : asUp(scene);
            }
            case SAFE: return fastest(scene, Math.min(scene.wind + 1, WINDS - 1));
            case BEST: return worthiest(rule, scene);
            case WATCH: return asTold(rule, scene, NO_SAIL);
            case TOLD: return asTold(rule, scene, rowAt(rule, scene.hour));
            default: return asUp(scene);
        }
    }

    private static int rowAt(Rule rule, int hour) {
        return hour >= 0 && hour < TOLD_HOURS ? rule.row[hour] : NO_SAIL;
    }

    private int asUp(Scene scene) {
        return may(scene, scene.up) ? scene.up : NO_SAIL;
    }

    private int fastest(Scene scene, int wind) {
        int best = NO_SAIL;
        int most = -1;
        for (int sail = 0; sail < scene.sails; sail++) {
            if (may(scene, sail)) {
                int pace = pace(GO, sail, wind, scene.hour);
                if (pace > most) {
                    best = sail;
                    most = pace;
                }
            }
        }
        return best;
    }

    private int worthiest(Rule rule, Scene scene) {
        // The one up goes first, so that it stays where another is but as good.
        int best = asUp(scene);
        int most = pace(GO, best, scene.wind, scene.hour) * rule.v;
        int loss = holding().loss;
        for (int sail = 0; sail < scene.sails; sail++) {
            if (sail != scene.up && may(scene, sail)) {
                int worth = pace(GO, sail, scene.wind, scene.hour) * rule.v - loss;
                if (best == NO_SAIL || worth > most) {
                    best = sail;
                    most = worth;
                }
            }
        }
        return best;
    }

    /** What the row tells for the hour, or else what the lines tell for the wind, or else the one up. */
    private int asTold(Rule rule, Scene scene, int byHour) {
        if (may(scene, byHour)) {
            return byHour;
        }
        int byWind = rule.lines[scene.wind];
        return may(scene, byWind) ? byWind : asUp(scene);
    }

    // ---- hours ahead

    /**
     * What n hours of a rule bring from the trial scene on, which is left as it was: MEAN as so many of
     * WHOLE_ODDS[n], SURE (m miles or more) likewise, WORST in miles.
     */
    private long ahead(int want, Rule rule, int n, int m) {
        int chosen = choice(rule, trial);
        int made = milesBy(trial, chosen);
        if (n <= 1) {
            return want != SURE ? made : made >= m ? 1L : 0L;
        }
        int up = trial.up;
        int wind = trial.wind;
        int whole = trial.whole;
        int tears = pace(TEAR, chosen, wind, trial.hour);
        int[] odds = holding().odds;
        long sum = 0;
        long least = Long.MAX_VALUE;
        trial.hour++;
        for (int way = 0; way < 2 * WINDS; way++) {
            boolean tore = way >= WINDS;
            int next = way % WINDS;
            int chance = (tore ? tears : HUNDRED - tears) * odds[wind * WINDS + next];
            if (chance > 0) {
                trial.up = tore ? NO_SAIL : chosen;
                trial.whole = tore ? whole & ~(1 << chosen) : whole;
                trial.wind = next;
                long then = ahead(want, rule, n - 1, m - made);
                sum += chance * then;
                least = Math.min(least, then);
            }
        }
        trial.hour--;
        trial.up = up;
        trial.wind = wind;
        trial.whole = whole;
        if (want == WORST) {
            return made + least;
        }
        return want == SURE ? sum : made * WHOLE_ODDS[n] + sum;
    }

    /**
     * Fills the lines of the watch that is nobody's, the sail being told for the wind of now, and answers what
     * they make. In two hours another wind's line counts in the second hour alone and only if that wind comes:
     * so each wind's best can be found by itself.
     */
    private long bestWith(int sail, int n) {
        int[] row = anyWatch.lines;
        Arrays.fill(row, NO_SAIL);
        row[now.wind] = sail;
        long most = ahead(MEAN, anyWatch, n, 0);
        for (int wind = 0; wind < WINDS && n > 1; wind++) {
            if (wind == now.wind) {
                continue;
            }
            int best = NO_SAIL;
            for (int other = 0; other < now.sails; other++) {
                if (may(now, other)) {
                    row[wind] = other;
                    long made = ahead(MEAN, anyWatch, n, 0);
                    if (made > most) {
                        best = other;
                        most = made;
                    }
                }
            }
            row[wind] = best;
        }
        return most;
    }

    private static boolean isEarlierRow(int[] row, int[] other) {
        for (int wind = 0; wind < WINDS; wind++) {
            if (row[wind] != other[wind]) {
                return row[wind] < other[wind];
            }
        }
        return false;
    }

    /** Part 0 above, 1 below the line of a fraction in lowest terms; below is above 0. */
    private static long lowest(long above, long below, int part) {
        long a = Math.abs(above);
        long b = below;
        for (int i = 0; i < 200 && a != 0; i++) {
            long rest = b % a;
            b = a;
            a = rest;
        }
        if (b <= 0) {
            return NO;
        }
        return (part == 0 ? above : below) / b;
    }

    // ---- acts

    /** Runs the body of an act that the kind has, or else the next kind above it that has one. */
    private int perform(Rule rule, int kind, int act, int x, int depth) {
        int owner = kind;
        for (int i = 0; i < KINDS && owner > 0 && BODIES[owner * ACTS + act] == 0; i++) {
            owner = ABOVE[owner];
        }
        if (owner < 0 || depth > DEEPEST_ACT) {
            return 0;
        }
        int body = BODIES[owner * ACTS + act];
        if (bodyCount < TRACE) {
            bodies[bodyCount] = body;
        }
        bodyCount++;
        int above = ABOVE[owner];
        int deeper = depth + 1;
        switch (body) {
            case 10: return x + rule.number;
            case 11: return perform(rule, rule.kind, PICKS, x, deeper) - rule.v;
            case 12: return perform(rule, rule.kind, REEFS, x, deeper) * 2;
            case 20: return perform(rule, above, REEFS, x, deeper) ^ 6;
            case 30: return perform(rule, above, PICKS, x * 3, deeper);
            case 40: {
                int first = perform(rule, above, TELLS, x, deeper);
                return first + perform(rule, rule.kind, REEFS, 1, deeper);
            }
            case 50: return -perform(rule, above, PICKS, x, deeper);
            case 51: return perform(rule, above, REEFS, x + 1, deeper);
            case 60: return perform(rule, above, TELLS, x - rule.number, deeper);
            case 70: {
                int first = perform(rule, above, REEFS, x, deeper);
                return first + perform(rule, above, PICKS, 2, deeper);
            }
            case 71: return perform(rule, above, PICKS, x, deeper) ^ rule.v;
            default: return 0;
        }
    }

    /** How all is that an image keeps; whole and aboard are bits of sails. */
    private static final class Scene {
        int up = NO_SAIL;
        int wind;
        int hour;
        int miles;
        int hands = 4;
        int sails;
        int whole;
        int aboard;
        int race = -1;
        int gusts;
        final int[] squall = new int[GUSTS];

        void become(Scene other) {
            up = other.up;
            wind = other.wind;
            hour = other.hour;
            miles = other.miles;
            hands = other.hands;
            sails = other.sails;
            whole = other.whole;
            aboard = other.aboard;
            race = other.race;
            gusts = other.gusts;
            System.arraycopy(other.squall, 0, squall, 0, GUSTS);
        }
    }

    private static final class Rule {
        final int number;
        final int kind;
        int v;
        final int[] lines = new int[WINDS];
        final int[] row = new int[TOLD_HOURS];

        Rule(int number, int kind, int v) {
            this.number = number;
            this.kind = kind;
            this.v = v;
            Arrays.fill(lines, NO_SAIL);
            Arrays.fill(row, NO_SAIL);
        }
    }

    /** Clauses as they were read; each one's E stands in codes, the parts ahead of what joins them. */
    private static final class Race {
        int clauses;
        final int[] words = new int[CLAUSES];
        final int[] numbers = new int[CLAUSES];
        /** Of a wind clause: a and b as one number, as in odds. */
        final int[] pairs = new int[CLAUSES];
        final int[] ends = new int[CLAUSES];
        final int[] codes = new int[TEXT];
        int codeCount;
        int loss;
        /** FOLLOWS, by a and b. */
        final int[] odds = new int[WINDS * WINDS];

        Race() {
            settle();
        }

        void clear() {
            clauses = 0;
            codeCount = 0;
        }

        void put(int code) {
            if (codeCount < TEXT) {
                codes[codeCount] = code;
                codeCount++;
            }
        }

        void close(int word, int number, int pair) {
            if (clauses < CLAUSES) {
                words[clauses] = word;
                numbers[clauses] = number;
                pairs[clauses] = pair;
                ends[clauses] = codeCount;
                clauses++;
            }
        }

        /** Reckons from the clauses what no sail and no hour can change. */
        void settle() {
            loss = last(LOSE, 0);
            for (int a = 0; a < WINDS; a++) {
                int left = TEN;
                for (int b = 0; b < WINDS; b++) {
                    if (b != a) {
                        int n = Math.min(left, last(WIND, a * WINDS + b));
                        odds[a * WINDS + b] = n;
                        left -= n;
                    }
                }
                odds[a * WINDS + a] = left;
            }
        }

        int last(int word, int pair) {
            for (int i = clauses - 1; i >= 0; i--) {
                if (words[i] == word && pairs[i] == pair) {
                    return numbers[i];
                }
            }
            return 0;
        }

        /**
         * The numbers together of all clauses of a word whose E holds. The truths that wait are bits, the newest
         * the lowest: at most two for each of five levels wait.
         */
        int total(int word, int sail, int weight, int wind, int time) {
            int sum = 0;
            int from = 0;
            for (int i = 0; i < clauses; i++) {
                int truths = 0;
                for (int at = from; at < ends[i]; at++) {
                    int code = codes[at];
                    int newest = truths & 1;
                    if (code == NOT) {
                        truths ^= 1;
                    } else if (code == AND) {
                        truths = truths >> 1 & (newest | ~1);
                    } else if (code == OR) {
                        truths = truths >> 1 | newest;
                    } else {
                        int letter = code / 300;
                        int value = letter == 0 ? sail : letter == 1 ? weight : letter == 2 ? wind : time;
                        int than = code % 100;
                        int order = value < than ? 0 : value == than ? 1 : 2;
                        truths = truths << 1 | (order == code / 100 % 3 ? 1 : 0);
                    }
                }
                if (words[i] == word && (truths & 1) == 1) {
                    sum += numbers[i];
                }
                from = ends[i];
            }
            return sum;
        }
    }

    /** THE TEXT, and how it is read; what can't read on leaves the place where it was, which is the fault then. */
    private static final class Reader {
        final int[] text = new int[TEXT];
        int length;
        private int place;
        private int number;
        private Race race;

        void take(int sign) {
            if (length < TEXT) {
                text[length] = sign;
                length++;
            }
        }

        /** Reads THE TEXT into a race: -1, or the fault. */
        int fault(Race into) {
            race = into;
            place = 0;
            race.clear();
            for (int i = 0; i < CLAUSES; i++) {
                if (!readClause()) {
                    return place;
                }
                if (place == length) {
                    race.settle();
                    return -1;
                }
                if (i == CLAUSES - 1 || !pass(';')) {
                    return place;
                }
            }
            return place;
        }

        private boolean readClause() {
            int word = wordBegun();
            if (word < 0 || !passWord(wordOf(word))) {
                return false;
            }
            int pair = 0;
            if (word == WIND) {
                if (!passWindFigure()) {
                    return false;
                }
                int a = number;
                if (!pass(' ') || !passWindFigure() || !pass(' ')) {
                    return false;
                }
                pair = a * WINDS + number;
            }
            if (!passNumber()) {
                return false;
            }
            int n = number;
            boolean tested = word == GO || word == TEAR;
            if (tested && !(pass(' ') && readEither(0))) {
                return false;
            }
            race.close(word, n, pair);
            return true;
        }

        /** No two words begin alike. */
        private int wordBegun() {
            switch (sign()) {
                case 'g': return GO;
                case 't': return TEAR;
                case 'l': return LOSE;
                case 'w': return WIND;
                default: return -1;
            }
        }

        private static String wordOf(int word) {
            switch (word) {
                case GO: return "go ";
                case TEAR: return "tear ";
                case LOSE: return "lose ";
                default: return "wind ";
            }
        }

        /** An E: parts that & joins, joined by |. */
        private boolean readEither(int nested) {
            for (int i = 0; i < TEXT; i++) {
                if (!readFactor(nested)) {
                    return false;
                }
                for (int j = 0; j < TEXT && pass('&'); j++) {
                    if (!readFactor(nested)) {
                        return false;
                    }
                    race.put(AND);
                }
                if (i > 0) {
                    race.put(OR);
                }
                if (!pass('|')) {
                    return true;
                }
            }
            return false;
        }

        private boolean readFactor(int nested) {
            if (nested < NESTED && pass('!')) {
                if (!readFactor(nested + 1)) {
                    return false;
                }
                race.put(NOT);
                return true;
            }
            if (nested < NESTED && pass('(')) {
                return readEither(nested + 1) && pass(')');
            }
            return readTest();
        }

        private boolean readTest() {
            int letter = whichOf(sign(), 's', 'h', 'w', 't');
            if (letter < 0) {
                return false;
            }
            place++;
            int order = whichOf(sign(), '<', '=', '>', '>');
            if (order < 0) {
                return false;
            }
            place++;
            if (!passNumber()) {
                return false;
            }
            race.put(letter * 300 + order * 100 + number);
            return true;
        }

        /** The sign at the place; -1 at the end. */
        private int sign() {
            return place < length && place < TEXT ? text[place] : -1;
        }

        private boolean pass(int due) {
            if (sign() != due) {
                return false;
            }
            place++;
            return true;
        }

        private boolean passWord(String word) {
            for (int i = 0; i < word.length(); i++) {
                if (!pass(word.charAt(i))) {
                    return false;
                }
            }
            return true;
        }

        private static int whichOf(int sign, int a, int b, int c, int d) {
            return sign == a ? 0 : sign == b ? 1 : sign == c ? 2 : sign == d ? 3 : -1;
        }

        private boolean passWindFigure() {
            int figure = sign() - '0';
            if (!isWind(figure)) {
                return false;
            }
            number = figure;
            place++;
            return true;
        }

        private boolean passNumber() {
            int first = sign() - '0';
            if (first < 0 || first > 9) {
                return false;
            }
            number = first;
            place++;
            int second = sign() - '0';
            if (second >= 0 && second <= 9) {
                number = first * 10 + second;
                place++;
            }
            return true;
        }
    }

    /** Items of every sort stand as longs, so that a tape that becomes another needs no new row. */
    private static final class Tape {
        static final int EMPTY = -1;
        int sort = EMPTY;
        int length;
        final long[] items = new long[ITEMS];

        void begin(int newSort, int newLength) {
            sort = newSort;
            length = newLength;
            Arrays.fill(items, 0L);
        }

        long fitted(long v) {
            switch (sort) {
                case BYTES: return (byte) v;
                case SHORTS: return (short) v;
                case INTS: return (int) v;
                case LONGS: return v;
                default: return v != 0 ? 1L : 0L;
            }
        }

        boolean reaches(int from, int n) {
            return n >= 0 && from >= 0 && n <= length && from <= length - n;
        }
    }
}
