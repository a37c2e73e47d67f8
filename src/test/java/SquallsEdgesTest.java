import java.io.IOException;

/** The bounds and refusals that parts 3 and 4 of the terms and promises 24 to 37 name, sentence by sentence. */
public final class SquallsEdgesTest {
    private static final Sentences DOC = new Sentences();
    private static final int LEAST = Sentences.LEAST, MOST = Sentences.MOST;
    private static final long NO = Sentences.NO;
    private static final int BYTES = 0, SHORTS = 1, INTS = 2, LONGS = 3, BOOLEANS = 4;

    private static void says(String quote) { DOC.says(quote); }

    private static void due(String call, long got, long want) { DOC.due(call, got, want); }

    public static void main(String[] args) throws IOException {
        squall();
        made();
        worst();
        bodies();
        bodiesOfTheKindsAbove();
        wrapping();
        theTrace();
        theImage();
        undoOfSailsSince();
        tapes();
        items();
        itemsOfSorts();
        aLog();
        judged();
        judgedShort();
        judgedNothing();
        hostsRefusals();
        squallRefused();
        judgeRefused();
        imageAndUndo();
        actRefused();
        traceAndTaken();
        count();
        tapeRefused();
        itemAndReadRefused();
        shift();
        shiftPlaces();
        shiftRefused();
        answers();
        changesNothing();
        constants();
        DOC.end(args);
    }

    /** A new object with so many sails of one hand each that has read a text. */
    private static NineSails with(int sails, String text) {
        NineSails x = Sentences.raced(text);
        for (int i = 0; i < sails; i++) x.sail(i, 1);
        return x;
    }

    private static void winds(NineSails x, int... winds) {
        x.squall(-1);
        for (int wind : winds) x.squall(wind);
    }

    // ---- terms, part 3

    private static void squall() {
        says("A SQUALL: a row of WINDS told by hand (6 at most, as they come)");
        NineSails x = with(1, "go 1 w=0;go 10 w=1;go 20 w=2;go 30 w=3");
        x.rule(0, 0);
        x.hoist(0);
        int[] winds = {0, 1, 2, 3, 3, 0};
        int[] miles = {1, 11, 31, 61, 91, 92};
        due("none at first", x.count(3), 0);
        due("nothing made", x.made(0), 0);
        for (int i = 0; i < 6; i++) {
            due("one more", x.squall(winds[i]), i + 1);
            due("how many", x.count(3), i + 1);
            due("they bring", x.made(0), miles[i]);
        }
        due("a seventh", x.squall(3), -4);
        due("a seventh", x.squall(0), -4);
        due("six", x.count(3), 6);
        due("they bring the same", x.made(0), 92);
        due("none", x.squall(-1), 0);
        due("nothing made", x.made(0), 0);
        due("the first again", x.squall(2), 1);
        due("it brings", x.made(0), 20);
    }

    private static void made() {
        says("MADE: the MILES that a RULE makes, if no SAIL tears, the WINDS being these from now on.");
        NineSails x = with(2, "go 9 s=0;go 5 s=1&w=0;go 20 s=1&w=1;tear 99 s<2;tear 1 s<2;lose 3");
        x.rule(1, 0);
        x.set(1, 1);
        winds(x, 0);
        due("one wind, be there another now", x.made(0), 6);
        winds(x, 0, 0, 0, 0, 0, 0);
        due("six, and none tears", x.made(0), 51);
        winds(x, 0, 1, 0);
        due("changes", x.made(0), 6 + 17 + 6);
        x.hoist(1);
        due("from what is up", x.made(0), 6 + 17 + 6);
        winds(x, 1, 1);
        due("from what is up", x.made(0), 40);
        Checks.race(x, "lose 99;go 1 s=0&w=0");
        winds(x, 0, 1);
        due("below 0", x.made(0), -98);
        x = with(1, "go 1 t=3;go 2 t=4;go 4 t=8;go 50 t=9");
        x.rule(0, 0);
        x.hoist(0);
        winds(x, 0, 1, 2, 3, 0, 1);
        x.set(2, 3);
        due("hour by hour", x.made(0), 7);
        x.set(2, 99);
        due("hour by hour behind 99", x.made(0), 7);
        x.set(2, 4);
        due("six hours", x.made(0), 56);
        due("hour", x.ship(2), 4);
    }

    private static void worst() {
        says("WORST: the least MILES in n HOURS (1 .. 4) that a RULE may make (of all that may be, with odds above 0).");
        NineSails x = with(1, "go 9 w<3;tear 1 w=2;wind 0 1 9;wind 1 2 9;wind 2 3 1");
        x.rule(1, 0);
        int[] calm = {9, 18, 27, 27};
        for (int n = 1; n <= 4; n++) due("from wind 0 in " + n, x.worst(0, n), calm[n - 1]);
        x.set(1, 2);
        for (int n = 1; n <= 4; n++) due("from wind 2 in " + n, x.worst(0, n), 9);
        Checks.race(x, "go 9 w<3;tear 0 w=2;wind 0 1 9;wind 1 2 9;wind 2 3 0");
        for (int n = 1; n <= 4; n++) due("odds of 0 in " + n, x.worst(0, n), 9 * n);
        Checks.race(x, "go 9 w<3;wind 2 3 10;wind 3 0 10");
        int[] sure = {9, 9, 18, 27};
        for (int n = 1; n <= 4; n++) due("winds that come for sure in " + n, x.worst(0, n), sure[n - 1]);
        Checks.race(x, "go 9 s=0;tear 99 s=0;tear 1 s=0");
        for (int n = 1; n <= 4; n++) due("torn for sure in " + n, x.worst(0, n), 9);
        Checks.race(x, "go 9 s=0;tear 1 s=0;lose 20");
        for (int n = 1; n <= 4; n++) due("below 0 in " + n, x.worst(0, n), -11);
        says("WORST in n HOURS (1 .. 4). -1001: NONE; -1002: BAD.");
        due("n 1", x.worst(0, 1), -11);
        due("n 4", x.worst(0, 4), -11);
        for (int n : Sentences.outside(1, 4)) due("n " + n, x.worst(0, n), -1002);
        for (int rule : Sentences.outside(0, 0)) {
            due("rule " + rule, x.worst(rule, 1), -1001);
            for (int n : Sentences.outside(1, 4)) due("rule ahead of n", x.worst(rule, n), -1001);
        }
        due("no rules", new NineSails().worst(0, 1), -1001);
    }

    private static void act(NineSails x, int rule, int act, int arg, int want, int... ran) {
        String call = "act(" + rule + ", " + act + ", " + arg + ")";
        due(call, x.act(rule, act, arg), want);
        due(call + ", how many ran", x.count(5), ran.length);
        for (int i = 0; i < ran.length; i++) due(call + ", body " + i, x.trace(i), ran[i]);
        due(call + ", no more", x.trace(ran.length), -1);
    }

    /** A rule of each kind, numbered as its kind, with numbers v that differ. */
    private static NineSails ofEachKind() {
        NineSails x = new NineSails();
        int[] v = {5, 4, 3, 2, 1, 9, 8};
        for (int kind = 0; kind < 7; kind++) x.rule(kind, v[kind]);
        return x;
    }

    private static void bodies() {
        NineSails x = ofEachKind();
        says("BODIES: RULE: 10 picks: x + i. 11 reefs: picks(x) - v. 12 tells: reefs(x) * 2.");
        act(x, 0, 0, 10, 10, 10);
        act(x, 0, 1, 10, 5, 11, 10);
        act(x, 0, 2, 10, 10, 12, 11, 10);
        says("TABLE: 20 reefs: super.reefs(x) ^ 6.");
        act(x, 1, 0, 10, 11, 10);
        act(x, 1, 1, 10, 7 ^ 6, 20, 11, 10);
        act(x, 1, 1, 9, 0, 20, 11, 10);
        act(x, 1, 2, 10, (7 ^ 6) * 2, 12, 20, 11, 10);
        says("HOLD: 30 picks: super.picks(x * 3).");
        act(x, 2, 0, 10, 32, 30, 10);
        act(x, 2, 1, 10, 29, 11, 30, 10);
        act(x, 2, 2, 10, 58, 12, 11, 30, 10);
        says("WATCH: 40 tells: super.tells(x) + reefs(1).");
        act(x, 5, 0, 10, 15, 10);
        act(x, 5, 1, 10, 6, 11, 10);
        act(x, 5, 2, 10, 6 * 2 + (1 + 5 - 9), 40, 12, 11, 10, 11, 10);
        says("SAFE: 50 picks: -super.picks(x). 51 reefs: super.reefs(x + 1).");
        act(x, 3, 0, 10, -13, 50, 10);
        act(x, 3, 1, 10, (-14 - 2) ^ 6, 51, 20, 11, 50, 10);
        act(x, 3, 2, 10, ((-14 - 2) ^ 6) * 2, 12, 51, 20, 11, 50, 10);
        says("BEST: 60 tells: super.tells(x - i).");
        act(x, 4, 0, 10, 34, 30, 10);
        act(x, 4, 1, 10, 33, 11, 30, 10);
        act(x, 4, 2, 10, (6 * 3 + 4 - 1) * 2, 60, 12, 11, 30, 10);
        says("TOLD: 70 reefs: super.reefs(x) + super.picks(2). 71 picks: super.picks(x) ^ v.");
        act(x, 6, 0, 10, 16 ^ 8, 71, 10);
        act(x, 6, 0, 2, 0, 71, 10);
        act(x, 6, 0, 3, 1, 71, 10);
        act(x, 6, 1, 10, (16 ^ 8) - 8 + 8, 70, 11, 71, 10, 10);
        int reefsOf1 = (7 ^ 8) - 8 + 8;
        act(x, 6, 2, 10, (16 ^ 8) * 2 + reefsOf1, 40, 12, 70, 11, 71, 10, 10, 70, 11, 71, 10, 10);
    }

    private static void bodiesOfTheKindsAbove() {
        says("picks(..) and so on: the body of its KIND, or, if that has none, of the next KIND above that has one; super.picks(..): so from the KIND above the body's on; all that stands in a body is done from the left on.");
        NineSails x = ofEachKind();
        // Which body runs first, by kinds and acts.
        int[][] first = {{10, 11, 12}, {10, 20, 12}, {30, 11, 12}, {50, 51, 12}, {30, 11, 60}, {10, 11, 40}, {71, 70, 40}};
        for (int kind = 0; kind < 7; kind++) {
            for (int act = 0; act < 3; act++) {
                x.act(kind, act, 0);
                due("act " + act + " of kind " + kind + " begins", x.trace(0), first[kind][act]);
            }
        }
        act(x, 3, 1, 0, -6 ^ 6, 51, 20, 11, 50, 10);
        act(x, 4, 2, 4, (0 * 3 + 4 - 1) * 2, 60, 12, 11, 30, 10);
        act(x, 6, 1, 2, (8 ^ 8) - 8 + 8, 70, 11, 71, 10, 10);
        act(x, 5, 2, 4, 0 * 2 - 3, 40, 12, 11, 10, 11, 10);
    }

    private static void wrapping() {
        says("ACTS of a RULE with x (wrapping): 0 picks, 1 reefs, 2 tells; i its number.");
        NineSails x = new NineSails();
        for (int i = 0; i < 10; i++) x.rule(new int[] {0, 1, 2, 3, 4, 5, 6, 0, 2, 4}[i], 9);
        act(x, 7, 0, MOST, LEAST + 6, 10);
        act(x, 7, 0, MOST - 7, MOST, 10);
        act(x, 0, 1, LEAST, MOST - 8, 11, 10);
        act(x, 0, 1, LEAST + 9, LEAST, 11, 10);
        act(x, 0, 2, LEAST + 9, 0, 12, 11, 10);
        act(x, 8, 0, 1 << 30, (1 << 30) * 3 + 8, 30, 10);
        act(x, 8, 0, LEAST, LEAST + 8, 30, 10);
        act(x, 3, 0, LEAST + 3, 2147483642, 50, 10);
        act(x, 3, 0, MOST - 2, LEAST, 50, 10);
        act(x, 9, 2, LEAST, (LEAST - 9) * 3 * 2, 60, 12, 11, 30, 10);
    }

    private static void theTrace() {
        says("THE TRACE: the numbers of the bodies that ran in the latest act(), as they began; the first 20 are kept.");
        NineSails x = new NineSails();
        x.rule(6, 3);
        x.rule(0, 3);
        due("none yet", x.count(5), 0);
        due("none yet", x.trace(0), -1);
        x.act(0, 2, 5);
        int[] ran = {40, 12, 70, 11, 71, 10, 10, 70, 11, 71, 10, 10};
        // No act has more bodies than these, so that all that ran are kept.
        due("how many", x.count(5), 12);
        for (int i = 0; i < 12; i++) due("the " + i + "-th", x.trace(i), ran[i]);
        for (int i : new int[] {LEAST, -2, -1, 12, 13, 19, 20, 21, MOST}) due("the " + i + "-th", x.trace(i), -1);
        x.act(1, 0, 5);
        due("of the latest alone", x.count(5), 1);
        due("its first", x.trace(0), 10);
        for (int i = 1; i < 12; i++) due("of the latest alone", x.trace(i), -1);
        x.picks(0);
        x.image();
        x.undo();
        due("others leave it", x.trace(0), 10);
    }

    private static void theImage() {
        says("THE IMAGE: THE SHIP, HANDS, which SAILS are WHOLE and ABOARD, which RACE holds, THE SQUALL (RULES with LINES and ROWS stay).");
        NineSails x = with(4, "go 5 s=0;go 6 s=1;go 2 s=1&w=2;lose 3;wind 0 1 5");
        x.rule(1, 0);
        x.rule(6, 0);
        x.hoist(1);
        x.set(0, 9);
        x.set(2, 98);
        x.make(2, 0, false);
        x.make(3, 1, false);
        x.go(0, false, 1);
        winds(x, 1, 2, 3);
        due("taken", x.image(), 4);
        x.hoist(-1);
        x.set(0, 0);
        x.set(1, 3);
        x.set(2, 0);
        for (int s = 0; s < 4; s++) for (int what = 0; what < 2; what++) x.make(s, what, s > 1);
        winds(x, 0, 0, 0, 0);
        x.rule(0, 5);
        x.line(1, 1, 3);
        x.told(1, 4, 2);
        Checks.race(x, "go 9 s=0;lose 1");
        for (int again = 0; again < 2; again++) {
            x.set(0, 1);
            x.set(1, 3);
            x.set(2, again);
            x.hoist(-1);
            due("an hour of " + (again == 0 ? "another" : "the same") + " race", x.go(0, false, 3), again == 0 ? -1 : 3);
            winds(x, 0, 0, 0, 0);
            due("undone", x.undo(), 4);
            int[] ship = {1, 1, 99, 6, 9};
            for (int i = 0; i < 5; i++) due("the ship, " + i, x.ship(i), ship[i]);
            int[] whole = {1, 1, 0, 1}, aboard = {1, 1, 1, 0};
            for (int s = 0; s < 4; s++) due("whole " + s, x.of(s, 2), whole[s]);
            for (int s = 0; s < 4; s++) due("aboard " + s, x.of(s, 3), aboard[s]);
            due("the race, speed", x.speed(0, 0, 0, 0), 5);
            due("the race, speed", x.speed(1, 0, 0, 0), 6);
            due("the race, winds", x.follows(0, 1), 5);
            due("the squall", x.count(3), 3);
            due("its miles", x.made(0), 20);
            due("rules", x.count(2), 3);
            due("races", x.count(1), 2);
        }
        due("lines stay", x.line(1, 1, 0), 3);
        due("rows stay", x.told(1, 4, 0), 2);
        due("the next race", Checks.race(x, "lose 2"), 2);
        says("which RACE holds");
        x = new NineSails();
        x.sail(0, 1);
        x.image();
        for (int i = 0; i < 5; i++) {
            due("race " + i, Checks.race(x, "go " + (i + 1) + " s=0;lose 9;wind 0 1 9"), i);
            due("its speed", x.speed(0, 0, 0, 0), i + 1);
            due("undone", x.undo(), 1);
            due("none held, speed", x.speed(0, 0, 0, 0), 0);
            due("none held, winds", x.follows(0, 1), 0);
        }
        x = Sentences.raced("go 1 s=0", "go 2 s=0", "go 3 s=0");
        x.sail(0, 1);
        x.image();
        due("the fourth", Checks.race(x, "go 4 s=0"), 3);
        due("the fifth", Checks.race(x, "go 5 s=0"), 4);
        due("undone", x.undo(), 1);
        due("the third holds", x.speed(0, 0, 0, 0), 3);
        due("a sixth", Checks.race(x, "go 6 s=0"), -4);
        due("the third holds", x.speed(0, 0, 0, 0), 3);
        says("STATE: there is none.");
        NineSails y = new NineSails();
        due("no image", y.undo(), -3);
        y.sail(0, 1);
        due("no image", y.undo(), -3);
        due("one of nothing but a sail", y.image(), 1);
        due("one", y.undo(), 1);
    }

    private static void undoOfSailsSince() {
        says("All is as THE IMAGE (SAILS that came since are not ABOARD, WHOLE or torn as they are now): how many SAILS there were. STATE: there is none.");
        NineSails x = new NineSails();
        due("an image of no sails", x.image(), 0);
        for (int i = 0; i < 6; i++) x.sail(i, 1);
        for (int i = 0; i < 6; i += 2) x.make(i, 0, false);
        x.hoist(5);
        due("none there were", x.undo(), 0);
        due("six there are", x.count(0), 6);
        due("none is up", x.ship(0), -5);
        for (int i = 0; i < 6; i++) {
            due("its weight", x.of(i, 0), i);
            due("whole or torn as it was " + i, x.of(i, 2), i % 2);
            due("not aboard " + i, x.of(i, 3), 0);
        }
        due("still full", x.sail(0, 1), -4);
        x.make(0, 0, true);
        x.make(0, 1, true);
        x.make(1, 1, true);
        due("an image of six", x.image(), 6);
        x.make(0, 0, false);
        x.make(1, 1, false);
        x.make(2, 1, true);
        due("six there were", x.undo(), 6);
        int[] whole = {1, 1, 0, 1, 0, 1}, aboard = {1, 1, 0, 0, 0, 0};
        for (int i = 0; i < 6; i++) due("whole " + i, x.of(i, 2), whole[i]);
        for (int i = 0; i < 6; i++) due("aboard " + i, x.of(i, 3), aboard[i]);
        x = new NineSails();
        x.sail(0, 1);
        x.make(0, 0, false);
        x.image();
        x.sail(0, 1);
        x.make(0, 0, true);
        x.make(1, 0, false);
        due("one there was", x.undo(), 1);
        due("torn as in the image", x.of(0, 2), 0);
        due("aboard as in the image", x.of(0, 3), 1);
        due("torn as it is now", x.of(1, 2), 0);
        due("not aboard", x.of(1, 3), 0);
        x.make(1, 0, true);
        due("again", x.undo(), 1);
        due("whole as it is now", x.of(1, 2), 1);
    }

    // ---- terms, part 4

    private static void tapes() {
        says("TAPES 0 .. 5 hold nothing (at first), or a row of 0 bytes, 1 shorts, 2 ints, 3 longs, 4 booleans (items 0, 1).");
        NineSails x = new NineSails();
        for (int t = 0; t < 6; t++) {
            due("nothing at first", x.read(t, 0), NO);
            due("nothing at first", x.item(t, 0, 1), -11);
            due("nothing at first", x.shift(t, 0, t, 0, 0), -11);
        }
        for (int t = 0; t < 6; t++) for (int sort = 0; sort < 5; sort++) due("sort " + sort, x.tape(t, sort, t), 1);
        for (int t : Sentences.outside(0, 5)) {
            due("tape " + t, x.tape(t, 0, 1), -1);
            due("tape " + t, x.item(t, 0, 1), -1);
            due("tape " + t, x.read(t, 0), NO);
            due("tape " + t, x.judge(t, 0), -1);
            due("tape " + t, x.shift(t, 0, 0, 0, 0), -1);
            due("tape " + t, x.shift(0, 0, t, 0, 0), -1);
        }
        for (int sort : Sentences.outside(-1, 4)) due("sort " + sort, x.tape(0, sort, 1), -2);
        for (int t = 0; t < 6; t++) due("of " + t + " items, the last", x.read(t, t - 1), t == 0 ? NO : 0);
        for (int t = 0; t < 6; t++) due("of " + t + " items, no more", x.read(t, t), NO);
    }

    private static void items() {
        says("Item i of a TAPE becomes v (its lowest bits, as many as an item has; booleans: whether v is not 0): 1. NONE; NOTHING; PLACE.");
        int[] lengths = {0, 1, 2, 59, 60};
        for (int length : lengths) {
            for (int sort = 0; sort < 5; sort++) {
                NineSails x = new NineSails();
                x.tape(5, sort, length);
                for (int i = 0; i < length; i++) due("item " + i + " of " + length, x.item(5, i, i % 3 == 0 ? 1 : 0), 1);
                for (int i = 0; i < length; i++) due("reads", x.read(5, i), i % 3 == 0 ? 1 : 0);
                for (int i : new int[] {LEAST, -1, length, length + 1, MOST}) {
                    due("item " + i + " of " + length, x.item(5, i, 1), -13);
                    due("reads " + i + " of " + length, x.read(5, i), NO);
                }
                for (int i = 0; i < length; i++) due("reads the same", x.read(5, i), i % 3 == 0 ? 1 : 0);
            }
        }
    }

    private static void itemsOfSorts() {
        says("(its lowest bits, as many as an item has; booleans: whether v is not 0)");
        NineSails x = new NineSails();
        for (int sort = 0; sort < 5; sort++) x.tape(sort, sort, 2);
        long[] given = {0, 1, -1, 2, 127, 128, -128, -129, 255, 256, 32767, 32768, -32768, -32769, 65535, 65536,
            2147483647L, 2147483648L, -2147483648L, -2147483649L, 4294967295L, 4294967296L, Long.MAX_VALUE, Long.MIN_VALUE, Long.MIN_VALUE + 1};
        int[] bytes = {0, 1, -1, 2, 127, -128, -128, 127, -1, 0, -1, 0, 0, -1, -1, 0, -1, 0, 0, -1, -1, 0, -1, 0, 1};
        int[] shorts = {0, 1, -1, 2, 127, 128, -128, -129, 255, 256, 32767, -32768, -32768, 32767, -1, 0, -1, 0, 0, -1, -1, 0, -1, 0, 1};
        int[] ints = {0, 1, -1, 2, 127, 128, -128, -129, 255, 256, 32767, 32768, -32768, -32769, 65535, 65536,
            MOST, LEAST, LEAST, MOST, -1, 0, -1, 0, 1};
        for (int i = 0; i < given.length; i++) {
            for (int sort = 0; sort < 5; sort++) due(given[i] + " of sort " + sort, x.item(sort, 1, given[i]), 1);
            due(given[i] + " as a byte", x.read(BYTES, 1), bytes[i]);
            due(given[i] + " as a short", x.read(SHORTS, 1), shorts[i]);
            due(given[i] + " as an int", x.read(INTS, 1), ints[i]);
            due(given[i] + " as a long", x.read(LONGS, 1), given[i]);
            due(given[i] + " as a boolean", x.read(BOOLEANS, 1), i == 0 ? 0 : 1);
        }
        for (int sort = 0; sort < 5; sort++) due("the other item", x.read(sort, 0), 0);
    }

    private static NineSails withLog(int... items) {
        NineSails x = new NineSails();
        int[] hands = {1, 4, 5, 9};
        for (int h : hands) x.sail(0, h);
        x.tape(0, BYTES, items.length);
        for (int i = 0; i < items.length; i++) x.item(0, i, items[i]);
        return x;
    }

    private static void aLog() {
        says("A log: a row of bytes, from a place on, one SAIL for each HOUR of THE SQUALL (from how THE SHIP is), is JUDGED");
        NineSails x = withLog(1, 0, 2, 2, 1);
        due("a change to it takes more hands", x.hoist(2), -3);
        winds(x, 3);
        due("one hour, its first item alone", x.judge(0, 0), -5);
        winds(x, 3, 3);
        due("two hours, two items", x.judge(0, 0), -5);
        due("from place 1 on", x.judge(0, 1), 1);
        due("from place 2 on", x.judge(0, 2), 0);
        due("from place 4 on", x.judge(0, 4), 101);
        x.set(0, 5);
        x.hoist(2);
        x.set(0, 4);
        due("up, as the ship is", x.judge(0, 2), -5);
        due("down by then", x.judge(0, 1), 1);
        winds(x, 3, 3, 3);
        due("up for two hours, another then", x.judge(0, 2), -5);
        due("the ship has it up still", x.ship(0), 2);
        x.tape(0, BYTES, 5);
        due("another row, from place 0 on", x.judge(0, 0), -5);
    }

    private static void judged() {
        says("the first HOUR (counted from 0) whose item is no SAIL that MAY be up then");
        NineSails x = withLog(0, 1, 0, 1, 0, 1);
        winds(x, 0, 1, 2, 3, 0, 1);
        due("all may", x.judge(0, 0), -5);
        int[] wrong = {-128, -5, -2, -1, 2, 3, 4, 5, 6, 127};
        for (int hour = 0; hour < 6; hour++) {
            for (int item : wrong) {
                x.item(0, hour, item);
                due(item + " in hour " + hour, x.judge(0, 0), hour);
            }
            x.item(0, hour, hour % 2);
        }
        x.item(0, 2, 9);
        x.item(0, 4, 9);
        due("the first of two", x.judge(0, 0), 2);
        due("from behind the first on", x.judge(0, 3), 1);
        x = withLog(1, 1, 1, 0, 1, 1);
        winds(x, 0, 0, 0, 0, 0, 0);
        due("four hands are awake", x.judge(0, 0), -5);
        x.hoist(1);
        x.set(0, 3);
        due("up until it is down", x.judge(0, 0), 4);
        x.hoist(-1);
        due("three hands are awake", x.judge(0, 0), 0);
        x.set(0, 0);
        due("none awake", x.judge(0, 3), 0);
        x.set(0, 4);
        x.make(0, 0, false);
        due("torn", x.judge(0, 0), 3);
        x.make(0, 0, true);
        x.make(0, 1, false);
        due("ashore", x.judge(0, 0), 3);
        x.make(0, 1, true);
        x.make(1, 0, false);
        due("torn", x.judge(0, 0), 0);
    }

    private static void judgedShort() {
        says("100 and how many were looked at, if the row ends ahead of that (or the place is below 0, or the TAPE holds nothing).");
        NineSails x = withLog(0, 1, 0, 1, 0, 1);
        for (int hours = 1; hours <= 6; hours++) {
            x.squall(0);
            for (int i = 0; i <= 8; i++) due(hours + " hours from " + i, x.judge(0, i), i + hours <= 6 ? -5 : 100 + Math.max(0, 6 - i));
            for (int i : new int[] {LEAST, -6, -1, 7, MOST - 5, MOST}) due(hours + " hours from " + i, x.judge(0, i), 100);
            due("nothing there", x.judge(1, 0), 100);
            due("nothing there", x.judge(1, -1), 100);
            due("nothing there", x.judge(1, MOST), 100);
        }
        x.item(0, 5, 3);
        due("wrong ahead of the end", x.judge(0, 1), 4);
        due("wrong ahead of the end", x.judge(0, 5), 0);
        for (int length = 0; length < 6; length++) {
            x.tape(2, BYTES, length);
            due("a row of " + length, x.judge(2, 0), 100 + length);
        }
        x.tape(2, -1, 0);
        due("nothing there any more", x.judge(2, 0), 100);
        x.tape(3, BYTES, 60);
        due("the last six of 60", x.judge(3, 54), -5);
        due("the last five of 60", x.judge(3, 55), 105);
        due("the last of 60", x.judge(3, 59), 101);
        due("behind 60", x.judge(3, 60), 100);
    }

    private static void judgedNothing() {
        says("-5: none, or there is none to look at");
        NineSails x = withLog(9, 9);
        due("an empty squall", x.judge(0, 0), -5);
        due("an empty squall, behind the end", x.judge(0, 2), -5);
        due("an empty squall, below 0", x.judge(0, -1), -5);
        due("an empty squall, nothing there", x.judge(1, 0), -5);
        x.squall(0);
        due("one hour", x.judge(0, 0), 0);
        x.squall(-1);
        due("an empty squall again", x.judge(0, 0), -5);
    }

    private static void hostsRefusals() {
        says("The host's refusals: NOTHING (-11): nothing is there; CAST (-12): another sort or KIND; PLACE (-13): no such place; SIZE (-14): a size below 0.");
        NineSails x = new NineSails();
        x.tape(0, BYTES, 1);
        x.tape(1, INTS, 1);
        due("nothing: an item", x.item(2, 0, 0), -11);
        due("nothing: from", x.shift(2, 0, 0, 0, 1), -11);
        due("nothing: to", x.shift(0, 0, 2, 0, 1), -11);
        due("nothing: a rule", x.taken(0, 0), -11);
        x.rule(1, 0);
        due("there: a rule", x.taken(0, 0), 1);
        due("another kind", x.taken(0, 3), -12);
        due("another sort: items", x.shift(0, 0, 1, 0, 1), -12);
        due("another sort: a log", x.judge(1, 0), -12);
        due("no such place: an item", x.item(0, 1, 0), -13);
        due("such a place: an item", x.item(0, 0, 0), 1);
        due("no such place: items", x.shift(0, 0, 0, 1, 1), -13);
        due("a size below 0", x.tape(0, BYTES, -1), -14);
        due("a size of 0", x.tape(0, BYTES, 0), 1);
        due("no such place: an item of none", x.item(0, 0, 0), -13);
    }

    // ---- promises 24 to 37

    private static void squallRefused() {
        says("A WIND comes to THE SQUALL: how many (-1: there are none then, 0). NONE; FULL: 6.");
        NineSails x = new NineSails();
        due("none of none", x.squall(-1), 0);
        for (int i = 0; i < 6; i++) {
            for (int wind : Sentences.outside(-1, 3)) due("wind " + wind, x.squall(wind), -1);
            due("one more", x.squall(i % 4), i + 1);
        }
        for (int wind = 0; wind < 4; wind++) due("full", x.squall(wind), -4);
        for (int wind : Sentences.outside(-1, 3)) due("wind ahead of full", x.squall(wind), -1);
        due("six", x.count(3), 6);
        due("none of six", x.squall(-1), 0);
        due("none", x.count(3), 0);
        says("MADE by a RULE. -1001: NONE.");
        due("no rules", x.made(0), -1001);
        x.rule(0, 0);
        due("no winds", x.made(0), 0);
        for (int rule : Sentences.outside(0, 0)) due("rule " + rule, x.made(rule), -1001);
        for (int i = 1; i < 10; i++) x.rule(1, 0);
        x.squall(0);
        due("the last rule", x.made(9), 0);
        for (int rule : Sentences.outside(0, 9)) due("rule " + rule, x.made(rule), -1001);
    }

    private static void judgeRefused() {
        says("A log from place i of a TAPE on is JUDGED. NONE: tape; CAST: it is no row of bytes.");
        NineSails x = withLog(0);
        for (int squall = 0; squall < 2; squall++) {
            for (int tape : Sentences.outside(0, 5)) for (int i = -1; i < 2; i++) due("tape " + tape, x.judge(tape, i), -1);
            for (int sort = 0; sort < 5; sort++) {
                x.tape(5, sort, 3);
                for (int i = -1; i < 5; i++) {
                    int bytes = squall == 0 || i >= 0 && i < 3 ? -5 : 100;
                    due("sort " + sort + " from " + i, x.judge(5, i), sort == BYTES ? bytes : -12);
                }
                x.tape(5, sort, 0);
                due("sort " + sort + ", no items", x.judge(5, 0), sort != BYTES ? -12 : squall == 0 ? -5 : 100);
            }
            x.squall(0);
        }
    }

    private static void imageAndUndo() {
        says("THE IMAGE is taken: how many SAILS there are.");
        NineSails x = new NineSails();
        for (int sails = 0; sails <= 6; sails++) {
            due("of " + sails, x.image(), sails);
            due("undone", x.undo(), sails);
            x.sail(0, 1);
        }
        x.set(2, 5);
        due("another", x.image(), 6);
        x.set(2, 6);
        due("the newest", x.undo(), 6);
        due("its hour", x.ship(2), 5);
    }

    private static void actRefused() {
        says("An ACT (0 picks, 1 reefs, 2 tells) of a RULE with x. 0, and no TRACE then: no such RULE, act.");
        NineSails x = new NineSails();
        act(x, 0, 0, 5, 0);
        for (int i = 0; i < 10; i++) x.rule(0, i);
        for (int rule : Sentences.outside(0, 9)) {
            for (int act = -1; act <= 3; act++) {
                act(x, 9, 2, 5, 10, 12, 11, 10);
                act(x, rule, act, 5, 0);
            }
        }
        for (int act : Sentences.outside(0, 2)) {
            act(x, 0, 1, 5, 5, 11, 10);
            act(x, 0, act, 5, 0);
            act(x, 9, act, 5, 0);
        }
    }

    private static void traceAndTaken() {
        says("THE TRACE's i-th body. NONE.");
        NineSails x = new NineSails();
        for (int i : new int[] {LEAST, -1, 0, 1, MOST}) due("the " + i + "-th of none", x.trace(i), -1);
        x.rule(0, 0);
        x.act(0, 2, 0);
        int[] ran = {12, 11, 10};
        for (int i = 0; i < 3; i++) due("the " + i + "-th", x.trace(i), ran[i]);
        for (int i : Sentences.outside(0, 2)) due("the " + i + "-th", x.trace(i), -1);
        says("A RULE taken for one of KIND k (0 .. 6), or one under that: its KIND. BAD: k; NOTHING: no such RULE; CAST.");
        x = new NineSails();
        due("no rules", x.taken(0, 0), -11);
        due("k ahead of the rule", x.taken(0, 7), -2);
        for (int kind = 0; kind < 7; kind++) x.rule(kind, 0);
        int[] above = {-1, 0, 0, 1, 2, 0, 5};
        for (int rule = 0; rule < 7; rule++) {
            for (int k : Sentences.outside(0, 6)) due("k " + k, x.taken(rule, k), -2);
            for (int k = 0; k < 7; k++) due(rule + " for " + k, x.taken(rule, k), k == 0 || k == rule || k == above[rule] ? rule : -12);
        }
        for (int rule : Sentences.outside(0, 6)) {
            for (int k = 0; k < 7; k++) due("rule " + rule, x.taken(rule, k), -11);
            for (int k : Sentences.outside(0, 6)) due("k ahead of the rule", x.taken(rule, k), -2);
        }
    }

    private static void count() {
        says("How many: 0 SAILS, 1 RACES, 2 RULES, 3 WINDS of THE SQUALL, 4 bytes of THE TEXT, 5 bodies that ran in the latest act() (all, kept or not). BAD.");
        NineSails x = new NineSails();
        for (int what = 0; what < 6; what++) due("none of " + what, x.count(what), 0);
        for (int what : Sentences.outside(0, 5)) due("what " + what, x.count(what), -2);
        for (int i = 0; i < 9; i++) x.sail(0, 1);
        for (int i = 0; i < 9; i++) Checks.race(x, "lose 1");
        for (int i = 0; i < 12; i++) x.rule(6, 1);
        for (int i = 0; i < 9; i++) x.squall(1);
        for (int i = 0; i < 30; i++) x.feed(0, 4);
        x.act(9, 2, 3);
        int[] full = {6, 5, 10, 6, 100, 12};
        for (int what = 0; what < 6; what++) due("as many as may be of " + what, x.count(what), full[what]);
        for (int what : Sentences.outside(0, 5)) due("what " + what, x.count(what), -2);
    }

    private static void tapeRefused() {
        says("A TAPE becomes a row of n (0 .. 60) of a sort, all 0, or holds nothing (sort -1: n does not matter): 1. NONE: tape; BAD: sort, n above 60; SIZE.");
        for (int sort = 0; sort < 5; sort++) {
            NineSails x = new NineSails();
            for (int n : new int[] {0, 1, 59, 60}) {
                due("n " + n, x.tape(0, sort, n), 1);
                for (int i = 0; i < n; i += 29) due("all 0", x.read(0, i), 0);
                due("the last", x.read(0, n - 1), n == 0 ? NO : 0);
                due("no more", x.read(0, n), NO);
                for (int i = 0; i < n; i++) x.item(0, i, -1);
            }
            for (int n : new int[] {61, 62, MOST}) due("n " + n, x.tape(0, sort, n), -2);
            for (int n : new int[] {-1, -2, LEAST}) due("n " + n, x.tape(0, sort, n), -14);
            due("as it was", x.read(0, 59), sort == BOOLEANS ? 1 : -1);
            due("the same again", x.tape(0, sort, 60), 1);
            due("all 0", x.read(0, 59), 0);
        }
        NineSails x = new NineSails();
        for (int n : new int[] {LEAST, -1, 0, 60, 61, MOST}) {
            for (int sort : Sentences.outside(-1, 4)) due("sort " + sort + ", n " + n, x.tape(5, sort, n), -2);
            for (int tape : Sentences.outside(0, 5)) {
                for (int sort = -2; sort <= 5; sort++) due("tape " + tape + ", sort " + sort + ", n " + n, x.tape(tape, sort, n), -1);
            }
            x.tape(5, 0, 3);
            due("nothing, n " + n, x.tape(5, -1, n), 1);
            due("nothing there", x.item(5, 0, 1), -11);
            due("nothing of nothing, n " + n, x.tape(5, -1, n), 1);
        }
    }

    private static void itemAndReadRefused() {
        says("Item i of a TAPE becomes v (its lowest bits, as many as an item has; booleans: whether v is not 0): 1. NONE; NOTHING; PLACE.");
        NineSails x = new NineSails();
        x.tape(0, 0, 2);
        for (int i : new int[] {LEAST, -1, 0, 1, 2, MOST}) {
            for (int tape : Sentences.outside(0, 5)) due("tape " + tape, x.item(tape, i, 1), -1);
            due("nothing there", x.item(5, i, 1), -11);
            due("place " + i, x.item(0, i, 7), i == 0 || i == 1 ? 1 : -13);
        }
        x.tape(0, 0, 0);
        due("no items", x.item(0, 0, 1), -13);
        says("Item i of a TAPE. NO: no such TAPE, nothing there, no such place.");
        x.tape(0, 3, 2);
        x.item(0, 0, Long.MAX_VALUE);
        x.item(0, 1, Long.MIN_VALUE);
        due("the first", x.read(0, 0), Long.MAX_VALUE);
        due("the last, that looks like no number", x.read(0, 1), NO);
        x.item(0, 1, 1);
        due("the last", x.read(0, 1), 1);
        for (int i : new int[] {LEAST, -1, 2, MOST}) due("place " + i, x.read(0, i), NO);
        for (int tape : Sentences.outside(0, 5)) due("tape " + tape, x.read(tape, 0), NO);
        due("nothing there", x.read(5, 0), NO);
        x.tape(0, 3, 0);
        due("no items", x.read(0, 0), NO);
    }

    private static NineSails withRows(int length, int other) {
        NineSails x = new NineSails();
        x.tape(0, 2, length);
        x.tape(1, 2, other);
        for (int i = 0; i < length; i++) x.item(0, i, 10 + i);
        for (int i = 0; i < other; i++) x.item(1, i, 20 + i);
        return x;
    }

    private static void shift() {
        says("n items of a TAPE from i on come to another one (or the same) from j on, as they all were before: n.");
        // All ways within a row of five, be they over one another or not.
        for (int n = 0; n <= 5; n++) {
            for (int i = 0; i + n <= 5; i++) {
                for (int j = 0; j + n <= 5; j++) {
                    NineSails x = withRows(5, 5);
                    due(n + " from " + i + " to " + j, x.shift(0, i, 0, j, n), n);
                    due(n + " from " + i + " to " + j + " of another", x.shift(0, 0, 1, 0, 5), 5);
                    for (int at = 0; at < 5; at++) {
                        int want = at >= j && at < j + n ? 10 + i + at - j : 10 + at;
                        due("item " + at + " of " + n + " from " + i + " to " + j, x.read(0, at), want);
                        due("item " + at + " of the other", x.read(1, at), want);
                    }
                }
            }
        }
        for (int sort = 0; sort < 5; sort++) {
            NineSails x = new NineSails();
            x.tape(4, sort, 60);
            x.tape(5, sort, 60);
            for (int i = 0; i < 60; i++) x.item(4, i, i % 7 == 0 ? -1 : 0);
            due("all 60 of sort " + sort, x.shift(4, 0, 5, 0, 60), 60);
            for (int i = 0; i < 60; i++) due("item " + i, x.read(5, i), i % 7 > 0 ? 0 : sort == BOOLEANS ? 1 : -1);
        }
    }

    private static void shiftPlaces() {
        says("PLACE: n, i or j is below 0, or beyond either's end.");
        int[] numbers = {LEAST, -4, -1, 0, 1, 2, 3, 4, 5, 6, MOST - 3, MOST};
        for (int i : numbers) {
            for (int j : numbers) {
                for (int n : numbers) {
                    boolean is = i >= 0 && j >= 0 && n >= 0 && (long) i + n <= 5 && (long) j + n <= 3;
                    NineSails x = withRows(5, 3);
                    due("shift(0, " + i + ", 1, " + j + ", " + n + ")", x.shift(0, i, 1, j, n), is ? n : -13);
                    for (int at = 0; at < 3; at++) {
                        boolean moved = is && at >= j && at < j + n;
                        due("item " + at, x.read(1, at), moved ? 10 + i + at - j : 20 + at);
                    }
                }
            }
        }
        due("none of none", withRows(0, 0).shift(0, 0, 1, 0, 0), 0);
        due("one of none", withRows(0, 1).shift(0, 0, 1, 0, 1), -13);
        due("one to none", withRows(1, 0).shift(0, 0, 1, 0, 1), -13);
        due("none at the end", withRows(5, 3).shift(0, 5, 1, 3, 0), 0);
        due("none beyond the end", withRows(5, 3).shift(0, 6, 1, 3, 0), -13);
        due("none beyond the other's end", withRows(5, 3).shift(0, 5, 1, 4, 0), -13);
    }

    private static void shiftRefused() {
        says("NONE: tapes; NOTHING; CAST: of unlike sorts; PLACE:");
        NineSails x = new NineSails();
        for (int sort = 0; sort < 5; sort++) x.tape(sort, sort, 3);
        for (int i = -1; i <= 4; i += 5) {
            for (int tape : Sentences.outside(0, 5)) {
                for (int other = -1; other <= 6; other++) {
                    due("tape " + tape, x.shift(tape, i, other, 0, 1), -1);
                    due("other " + tape, x.shift(other, i, tape, 0, 1), -1);
                }
            }
            for (int t = 0; t < 6; t++) {
                due("nothing there", x.shift(5, i, t, 0, 1), -11);
                due("nothing there", x.shift(t, i, 5, 0, 1), -11);
            }
            for (int t = 0; t < 5; t++) for (int o = 0; o < 5; o++) due("sorts " + t + ", " + o, x.shift(t, i, o, 0, 1), t == o ? -13 : -12);
        }
        for (int t = 0; t < 5; t++) for (int o = 0; o < 5; o++) due("none, of sorts " + t + ", " + o, x.shift(t, 0, o, 0, 0), t == o ? 0 : -12);
    }

    // ---- answers

    private static void answers() {
        says("NONE (-1) no such number; BAD (-2) a number is not as told; STATE (-3) as told; FULL (-4); the first that a call's words name.");
        NineSails x = with(6, "lose 3");
        for (int i = 0; i < 10; i++) x.rule(i % 7, 0);
        winds(x, 0, 1, 2, 3, 0, 1);
        x.hoist(0);
        due("no such sail", x.hoist(6), -1);
        due("none, with bad", x.speed(6, 0, 100, 0), -1);
        due("bad", x.speed(5, 0, 100, 0), -2);
        due("bad, with full", x.sail(10, 1), -2);
        due("full", x.sail(9, 1), -4);
        due("none, with bad and full", x.rule(7, 10), -1);
        due("bad, with full", x.rule(6, 10), -2);
        due("full", x.rule(6, 9), -4);
        due("none, with state", x.line(0, 4, 0), -1);
        due("state", x.line(0, 3, 0), -3);
        due("none, with state", x.make(0, 2, false), -1);
        due("state", x.make(0, 1, false), -3);
        due("none, with full", x.squall(4), -1);
        due("full", x.squall(3), -4);
    }

    private static NineSails busy() {
        NineSails x = with(4, "go 9 s<3;tear 10 s=1;lose 3;wind 0 1 5");
        for (int kind = 0; kind < 7; kind++) x.rule(kind, 2);
        winds(x, 0, 1, 2);
        x.tape(0, BYTES, 3);
        x.hoist(1);
        x.image();
        x.go(0, false, 1);
        x.act(6, 2, 3);
        Checks.feed(x, "go 1 s=");
        return x;
    }

    private static void changesNothing() {
        says("What is answered so changes nothing; what is asked changes nothing.");
        NineSails untouched = busy(), refused = busy(), asked = busy();
        due("refused", refused.make(1, 0, false), -3);
        due("refused", refused.set(1, 4), -2);
        due("refused", refused.hoist(5), -1);
        due("refused", refused.feed(0, 5), -2);
        due("refused", refused.line(1, 0, 0), -3);
        due("refused", refused.go(0, true, 3), -1002);
        due("refused", refused.squall(4), -1);
        due("refused", refused.tape(0, 0, 61), -2);
        due("refused", refused.item(0, 3, 1), -13);
        due("refused", refused.shift(0, 0, 0, 2, 2), -13);
        for (int rule = 0; rule < 7; rule++) {
            asked.picks(rule);
            asked.mean(rule, 3, 0);
            asked.sure(rule, 3, 9, 0);
            asked.few(rule, 6, 2);
            asked.torn(rule, 1, 3, 0);
            asked.sleep(rule, 3, 0);
            asked.made(rule);
            asked.worst(rule, 3);
            asked.taken(rule, 0);
        }
        asked.edge(3);
        asked.lines(2, 0);
        asked.judge(0, 0);
        String all = Snapshot.of(untouched);
        DOC.dueText("what was refused", Snapshot.of(refused), all);
        DOC.dueText("what was asked", Snapshot.of(asked), all);
    }

    private static void constants() {
        says("`NO = Long.MIN_VALUE`: There is no such number.");
        due("NO", NineSails.NO, Long.MIN_VALUE);
        says("public static final int NONE = -1, BAD = -2, STATE = -3, FULL = -4;");
        due("NONE", NineSails.NONE, -1);
        due("BAD", NineSails.BAD, -2);
        due("STATE", NineSails.STATE, -3);
        due("FULL", NineSails.FULL, -4);
    }
}
