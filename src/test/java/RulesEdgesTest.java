import java.io.IOException;

/** The bounds and refusals that part 2 of the terms and promises 12 to 23 name, sentence by sentence. */
public final class RulesEdgesTest {
    private static final Sentences DOC = new Sentences();
    private static final int LEAST = Sentences.LEAST, MOST = Sentences.MOST;
    private static final long NO = Sentences.NO;
    private static final int RULE = 0, TABLE = 1, HOLD = 2, SAFE = 3, BEST = 4, WATCH = 5, TOLD = 6;

    private static void says(String quote) { DOC.says(quote); }

    private static void due(String call, long got, long want) { DOC.due(call, got, want); }

    public static void main(String[] args) throws IOException {
        rulesAndKinds();
        ruleAndTable();
        hold();
        safe();
        best();
        bestOfSeveral();
        watch();
        told();
        anHourByHowAllIs();
        anHour();
        anHourTears();
        anHourLate();
        mean();
        meanInLowestTerms();
        sure();
        edge();
        few();
        fewOfSeveral();
        fewTakenDown();
        torn();
        sleep();
        lines();
        linesFirst();
        ruleRefused();
        lineAndToldRefused();
        picksAndGoRefused();
        meanAndSureRefused();
        edgeAndFewRefused();
        tornSleepLinesRefused();
        DOC.end(args);
    }

    /** A new object with so many sails of one hand each that has read a text. */
    private static NineSails with(int sails, String text) {
        NineSails x = Sentences.raced(text);
        for (int i = 0; i < sails; i++) x.sail(i, 1);
        return x;
    }

    private static void dueMean(NineSails x, int rule, int n, long above, long below) {
        due("mean in " + n + ", above", x.mean(rule, n, 0), above);
        due("mean in " + n + ", below", x.mean(rule, n, 1), below);
    }

    private static void dueSure(NineSails x, int rule, int n, int m, long above, long below) {
        due(m + " or more in " + n + ", above", x.sure(rule, n, m, 0), above);
        due(m + " or more in " + n + ", below", x.sure(rule, n, m, 1), below);
    }

    // ---- terms: what rules pick

    private static void rulesAndKinds() {
        says("RULES, numbered 0 .. 9, as they come, of KINDS: 0 RULE; 1 TABLE, 2 HOLD, 5 WATCH under RULE; 3 SAFE under TABLE; 4 BEST under HOLD; 6 TOLD under WATCH.");
        NineSails x = new NineSails();
        for (int i = 0; i < 10; i++) {
            due("not there yet", x.picks(i), -1);
            due("the next", x.rule(i % 7, 0), i);
            due("is there", x.picks(i), -5);
            due("how many", x.count(2), i + 1);
        }
        due("an eleventh", x.rule(0, 0), -4);
        due("no rule 10", x.picks(10), -1);
        int[] above = {-1, 0, 0, 1, 2, 0, 5};
        for (int kind = 0; kind < 7; kind++) {
            due("its own kind", x.taken(kind, kind), kind);
            due("of all kinds", x.taken(kind, 0), kind);
            for (int k = 1; k < 7; k++) due(kind + " under " + k, x.taken(kind, k), k == kind || k == above[kind] ? kind : -12);
        }
        for (int kind : Sentences.outside(0, 6)) due("kind " + kind, new NineSails().rule(kind, 0), -1);
        says("Each has a number v (0 .. 9).");
        for (int v = 0; v < 10; v++) {
            x = new NineSails();
            due("v " + v, x.rule(0, v), 0);
            due("its v", x.act(0, 1, 0), -v);
        }
        for (int kind = 0; kind < 7; kind++) for (int v : Sentences.outside(0, 9)) due("v " + v, x.rule(kind, v), -2);
        due("one rule", x.count(2), 1);
    }

    private static void ruleAndTable() {
        says("RULE: the one up, if it MAY; else none.");
        NineSails x = with(0, "go 5 s=1;go 5 s=3;go 4 s=2;go 9 s=0&w=1");
        x.rule(RULE, 9);
        x.rule(TABLE, 9);
        due("no sails", x.picks(0), -5);
        says("TABLE: of those that MAY that with the greatest SPEED now (of several the least; none MAY: none).");
        due("no sails", x.picks(1), -5);
        for (int i = 0; i < 4; i++) x.sail(0, 1 + i);
        due("of two the least", x.picks(1), 1);
        x.set(1, 1);
        due("the greatest now", x.picks(1), 0);
        x.set(1, 0);
        x.set(2, 99);
        due("and at the last hour", x.picks(1), 1);
        x.make(1, 0, false);
        due("of those that may", x.picks(1), 3);
        x.set(0, 3);
        due("of those that may", x.picks(1), 2);
        x.set(0, 1);
        due("of those that may, without speed", x.picks(1), 0);
        x.set(0, 0);
        due("none may", x.picks(1), -5);
        x.make(1, 0, true);
        x.set(0, 9);
        x.hoist(2);
        due("another than is up", x.picks(1), 1);
        x.set(0, 0);
        due("the one up alone may", x.picks(1), 2);
        says("RULE: the one up, if it MAY; else none.");
        due("the one up may with no hands", x.picks(0), 2);
        x.set(0, 9);
        due("the one up", x.picks(0), 2);
        x.hoist(0);
        due("sail 0 up", x.picks(0), 0);
        x.hoist(-1);
        due("none up", x.picks(0), -5);
        Checks.race(x, "lose 5");
        says("TABLE: of those that MAY that with the greatest SPEED now (of several the least; none MAY: none).");
        due("all without speed: the least", x.picks(1), 0);
        x.hoist(3);
        due("all without speed: the least, be another up", x.picks(1), 0);
    }

    private static void hold() {
        says("HOLD: what TABLE picks, if its SPEED is v or more above that of the one up (none: 0); else as RULE.");
        for (int more = 0; more <= 11; more++) {
            NineSails x = with(3, "go 5 s<3;go " + more + " s=0");
            for (int v = 0; v < 10; v++) x.rule(HOLD, v);
            x.hoist(1);
            for (int v = 0; v < 10; v++) due("v " + v + ", " + more + " above", x.picks(v), more >= v ? 0 : 1);
            x = with(3, "go " + more + " s=2");
            for (int v = 0; v < 10; v++) x.rule(HOLD, v);
            for (int v = 0; v < 10; v++) due("v " + v + ", " + more + " above none", x.picks(v), more < v ? -5 : more == 0 ? 0 : 2);
            x.set(0, 0);
            for (int v = 0; v < 10; v++) due("v " + v + ", none may", x.picks(v), -5);
        }
        NineSails x = with(2, "go 5 s<2");
        for (int v = 0; v < 2; v++) x.rule(HOLD, v);
        x.hoist(1);
        due("v 0, as fast as the least", x.picks(0), 0);
        due("v 1, as fast as the least", x.picks(1), 1);
    }

    private static void safe() {
        says("SAFE: as TABLE, but by SPEED in the WIND one higher (3 at most).");
        NineSails x = with(5, "go 9 s=0&w=0;go 9 s=1&w=1;go 9 s=2&w=2;go 9 s=3&w=3");
        x.rule(SAFE, 0);
        x.rule(TABLE, 0);
        int[] want = {1, 2, 3, 3};
        for (int wind = 0; wind < 4; wind++) {
            x.set(1, wind);
            due("in wind " + wind, x.picks(0), want[wind]);
            due("the table in wind " + wind, x.picks(1), wind);
        }
        x.make(3, 0, false);
        due("of those that may, the least", x.picks(0), 0);
        x.set(0, 0);
        due("none may", x.picks(0), -5);
        x.set(0, 4);
        x.set(1, 0);
        // Sail 1 it is, at its speed in the wind that is.
        due("miles by the wind that is", x.go(0, false, 0), 0);
        due("is up", x.ship(0), 1);
    }

    private static int bestOf(int v, int up, String text) {
        NineSails x = with(3, text);
        x.rule(BEST, v);
        x.hoist(up);
        return x.picks(0);
    }

    private static void best() {
        says("BEST: of those that MAY that with which SPEED now times v, less lose for another one than is up, is greatest");
        due("4 times 1 stays at 8 less 4", bestOf(1, 1, "go 4 s=1;go 8 s=2;lose 4"), 1);
        due("4 times 1 yields to 9 less 4", bestOf(1, 1, "go 4 s=1;go 9 s=2;lose 4"), 2);
        due("4 times 2 stays at 12 less 4", bestOf(2, 1, "go 4 s=1;go 6 s=2;lose 4"), 1);
        due("4 times 2 yields to 14 less 4", bestOf(2, 1, "go 4 s=1;go 7 s=2;lose 4"), 2);
        due("0 times 9 stays at 99 less 99", bestOf(9, 1, "go 11 s=2;lose 99"), 1);
        due("0 times 9 yields to 108 less 99", bestOf(9, 1, "go 12 s=2;lose 99"), 2);
        due("0 times 1 stays at 98 less 99", bestOf(1, 0, "go 98 s=2;lose 99"), 0);
        due("none to lose", bestOf(1, 0, "go 4 s=0;go 5 s=2"), 2);
        due("v 0 stays", bestOf(0, 1, "go 99 s=2"), 1);
        due("v 0 stays, where one would lose", bestOf(0, 1, "go 99 s=2;lose 1"), 1);
    }

    private static void bestOfSeveral() {
        says("(of several the one up, then the least; none MAY: none).");
        due("the one up of three", bestOf(1, 2, "go 5 s<3"), 2);
        due("the one up of two, the least being worse", bestOf(1, 2, "go 5 s>0"), 2);
        due("of two others the least", bestOf(1, 0, "go 5 s>0;lose 4"), 1);
        due("none up: the least of three", bestOf(1, -1, "go 5 s<3;lose 9"), 0);
        due("none up: the least of two", bestOf(1, -1, "go 5 s>0;lose 9"), 1);
        due("none up: below 0", bestOf(1, -1, "go 5 s=2;lose 99"), 2);
        due("none up, v 0: the least", bestOf(0, -1, "go 5 s=2;lose 99"), 0);
        NineSails x = with(2, "go 5 s=1;lose 3");
        x.rule(BEST, 1);
        x.make(1, 0, false);
        due("of those that may", x.picks(0), 0);
        x.make(0, 1, false);
        due("none may", x.picks(0), -5);
        x.make(1, 0, true);
        x.hoist(1);
        x.set(0, 0);
        x.make(0, 1, true);
        due("the one up alone may", x.picks(0), 1);
        due("no sails", bestOf(1, -1, "lose 1") == 0 ? new NineSails().picks(0) : 0, -1);
        x = new NineSails();
        x.rule(BEST, 9);
        due("no sails", x.picks(0), -5);
    }

    private static void watch() {
        says("WATCH: the SAIL that its LINES tell for the WIND, if it MAY; else as RULE (LINES tell none at first).");
        NineSails x = with(4, "go 9 s=3");
        x.rule(WATCH, 9);
        for (int wind = 0; wind < 4; wind++) {
            x.set(1, wind);
            due("none at first, none up", x.picks(0), -5);
        }
        x.hoist(0);
        for (int wind = 0; wind < 4; wind++) {
            x.set(1, wind);
            due("none at first", x.picks(0), 0);
            due("told", x.line(0, wind, 3 - wind), -5);
        }
        for (int wind = 0; wind < 4; wind++) {
            x.set(1, wind);
            due("as told", x.picks(0), 3 - wind);
        }
        x.make(1, 0, false);
        x.make(2, 1, false);
        int[] want = {3, 0, 0, 0};
        for (int wind = 0; wind < 4; wind++) {
            x.set(1, wind);
            due("torn or ashore: as rule", x.picks(0), want[wind]);
        }
        x.set(0, 0);
        x.set(1, 0);
        due("no hands: as rule", x.picks(0), 0);
        x.line(0, 0, 5);
        due("a sail that is not there: as rule", x.picks(0), 0);
        x.line(0, 0, 0);
        due("the one up", x.picks(0), 0);
        x.hoist(-1);
        due("may not, none up", x.picks(0), -5);
        x.set(0, 9);
        due("may, none up", x.picks(0), 0);
    }

    private static void told() {
        says("TOLD: as WATCH, but in HOURS 0 .. 4 what its ROW tells for that HOUR, if that is a SAIL that MAY.");
        NineSails x = with(4, "go 9 s=3");
        x.rule(TOLD, 9);
        x.line(0, 0, 3);
        int[] row = {1, 2, 0, 2, 1};
        for (int hour = 0; hour < 5; hour++) {
            x.set(2, hour);
            due("none at first: as watch", x.picks(0), 3);
            x.told(0, hour, row[hour]);
            due("as told", x.picks(0), row[hour]);
        }
        for (int hour : new int[] {5, 6, 23, 24, 25, 28, 48, 96, 99}) {
            x.set(2, hour);
            due("at " + hour + " as watch", x.picks(0), 3);
        }
        x.set(2, 4);
        due("at 4", x.picks(0), 1);
        x.set(2, 0);
        x.set(1, 3);
        due("in another wind", x.picks(0), 1);
        x.make(1, 0, false);
        due("torn: as watch, that has no line: as rule", x.picks(0), -5);
        x.hoist(0);
        due("as rule", x.picks(0), 0);
        x.set(1, 0);
        due("torn: as watch", x.picks(0), 3);
        x.make(1, 0, true);
        x.make(1, 1, false);
        due("ashore: as watch", x.picks(0), 3);
        x.make(1, 1, true);
        x.told(0, 0, 5);
        due("not there: as watch", x.picks(0), 3);
        x.told(0, 0, -1);
        due("none: as watch", x.picks(0), 3);
        x.told(0, 0, 1);
        x.set(0, 0);
        due("no hands for both: as rule", x.picks(0), 0);
    }

    // ---- terms: an hour

    private static void anHourByHowAllIs() {
        says("AN HOUR: the RULE PICKS by how all is; that is up then");
        NineSails x = with(3, "go 9 s=0&w=0&t=1;go 9 s=1&w=1&t=2;go 9 s=2&w=2;wind 0 1 9;wind 1 2 9");
        x.rule(TABLE, 0);
        x.set(2, 1);
        x.make(2, 1, false);
        due("by the wind and hour that are, not by the next", x.go(0, false, 1), 9);
        due("up", x.ship(0), 0);
        due("by the wind and hour that are now", x.go(0, false, 2), 9);
        due("up", x.ship(0), 1);
        due("by what is aboard", x.go(0, false, 2), 0);
        due("up", x.ship(0), 0);
        x.make(2, 1, true);
        due("by what is aboard now", x.go(0, false, 2), 9);
        due("up", x.ship(0), 2);
        x = with(1, "go 9 s=0");
        x.rule(WATCH, 0);
        due("none is picked", x.go(0, false, 0), 0);
        due("none is up then", x.ship(0), -5);
    }

    private static void anHour() {
        says("MILES are more by its SPEED, and less by lose, if it is a SAIL other than was up");
        NineSails x = with(2, "go 7 s=0;go 9 s=1&w=1;lose 9;wind 0 1 1;wind 1 0 9");
        x.rule(TABLE, 0);
        x.rule(RULE, 0);
        due("none was up and none is", x.go(1, false, 0), 0);
        due("none was up", x.go(0, false, 0), -2);
        due("the same was up", x.go(0, false, 0), 7);
        due("the same was up, by its rule", x.go(1, false, 1), 7);
        due("another was up", x.go(0, false, 1), 0);
        due("the same was up", x.go(0, false, 0), 9);
        due("miles", x.ship(3), 21);
        says("the WIND becomes one that FOLLOWS; HOUR is one more.");
        due("hours", x.ship(2), 6);
        due("the wind", x.ship(1), 0);
        due("of ten one", x.go(1, false, 1), 0);
        due("the wind", x.ship(1), 1);
        due("of ten none", x.go(1, false, 2), -1002);
        due("of ten none", x.go(1, false, 3), -1002);
        due("of ten one itself", x.go(1, false, 1), 9);
        due("of ten nine", x.go(1, false, 0), 9);
        Checks.race(x, "wind 0 3 10");
        due("of ten none itself", x.go(1, false, 0), -1002);
        due("of ten ten", x.go(1, false, 3), 0);
        due("itself, where none is told", x.go(1, false, 3), 0);
        due("another, where none is told", x.go(1, false, 0), -1002);
        due("hours", x.ship(2), 11);
    }

    private static void anHourTears() {
        says("then it is torn with odds of TEARS (none is up then)");
        String[] tears = {"tear 0 s=0", "tear 1 s=0", "tear 99 s=0", "tear 99 s=0;tear 1 s=0", "tear 99 s=0;tear 99 s=0"};
        for (int i = 0; i < tears.length; i++) {
            NineSails x = with(2, "go 5 s=0;lose 2;" + tears[i]);
            x.rule(TABLE, 0);
            due("stays whole: " + tears[i], x.go(0, false, 0), i < 3 ? 3 : -1002);
            due("is up", x.ship(0), i < 3 ? 0 : -5);
            due("is whole", x.of(0, 2), 1);
            due("hour", x.ship(2), i < 3 ? 1 : 0);
            int made = i < 3 ? 5 : 3;
            due("is torn: " + tears[i], x.go(0, true, 0), i > 0 ? made : -1002);
            due("none is up", x.ship(0), i > 0 ? -5 : 0);
            due("is torn", x.of(0, 2), i > 0 ? 0 : 1);
            due("is aboard", x.of(0, 3), 1);
            due("another is whole", x.of(1, 2), 1);
        }
        NineSails many = with(5, "go 5 s=3;tear 50 s<9");
        many.rule(TABLE, 0);
        many.make(1, 0, false);
        due("sail 3 tore", many.go(0, true, 0), 5);
        int[] whole = {1, 0, 1, 0, 1};
        for (int s = 0; s < 5; s++) due("whole " + s, many.of(s, 2), whole[s]);
        NineSails x = with(1, "tear 99 s<9;tear 1 s<9");
        x.rule(RULE, 0);
        due("none up tore", x.go(0, true, 0), -1002);
        due("none up did not", x.go(0, false, 0), 0);
        x.hoist(0);
        due("one up did not", x.go(0, false, 0), -1002);
        due("one up tore", x.go(0, true, 0), 0);
    }

    private static void anHourLate() {
        says("it is HOUR 99, or that can't be (it tore with TEARS 0, or none up; it did not with TEARS 100; that WIND never follows).");
        NineSails x = with(1, "go 5 s=0&t=2;tear 50 s=0");
        x.rule(TABLE, 0);
        x.set(2, 97);
        due("hour 97", x.go(0, false, 0), 0);
        due("hour 98", x.go(0, false, 0), 5);
        due("is 99", x.ship(2), 99);
        due("hour 99", x.go(0, false, 0), -1002);
        due("hour 99, torn", x.go(0, true, 0), -1002);
        due("is 99", x.ship(2), 99);
        due("miles", x.ship(3), 5);
        due("rule ahead of hour 99", x.go(1, false, 0), -1001);
        due("wind ahead of hour 99", x.go(0, false, 4), -1001);
        x.set(2, 98);
        due("hour 98, torn", x.go(0, true, 0), 5);
    }

    // ---- terms: hours ahead

    private static void mean() {
        says("MEAN of a RULE in n HOURS (1 .. 4): the mean of MILES that it makes: a fraction in lowest terms.");
        NineSails x = with(1, "go 99 s=0");
        x.rule(TABLE, 0);
        x.rule(RULE, 0);
        for (int n = 1; n <= 4; n++) {
            dueMean(x, 0, n, 99L * n, 1);
            dueMean(x, 1, n, 0, 1);
        }
        for (int n : new int[] {LEAST, -1, 0, 5, MOST}) {
            due("n " + n, x.mean(0, n, 0), NO);
            due("n " + n, x.mean(0, n, 1), NO);
        }
        x.hoist(0);
        x.go(0, false, 0);
        due("miles made before are none of it", x.mean(0, 1, 0), 99);
        Checks.race(x, "lose 99");
        x.hoist(-1);
        dueMean(x, 0, 4, -99, 1);
        // Each way of an hour goes on from the same hour.
        x = with(1, "go 5 t=1;go 9 t=2;go 20 t=3;tear 50 s=0;wind 0 1 5;wind 1 0 5");
        x.rule(TABLE, 0);
        dueMean(x, 0, 2, 5, 2);
        dueMean(x, 0, 3, 19, 4);
        dueMean(x, 0, 4, 29, 4);
    }

    private static void meanInLowestTerms() {
        says("a fraction in lowest terms");
        // Whole and in wind 0 for one hour more: 99 of 100 times 9 of ten.
        NineSails x = with(1, "go 7 w=0;tear 1 s=0;wind 0 1 1");
        x.rule(TABLE, 0);
        dueMean(x, 0, 1, 7, 1);
        dueMean(x, 0, 2, 13237, 1000);
        dueMean(x, 0, 3, 18794167, 1000000);
        dueMean(x, 0, 4, 23745602797L, 1000000000);
        Checks.race(x, "go 10 w=0;tear 50 s=0;wind 0 1 5");
        dueMean(x, 0, 2, 25, 2);
        dueMean(x, 0, 3, 105, 8);
        dueMean(x, 0, 4, 425, 32);
        Checks.race(x, "go 1 w=0;wind 0 1 10");
        dueMean(x, 0, 4, 1, 1);
        // Below 0: the sign stands above the line.
        NineSails y = with(2, "lose 1;go 1 s=0&w=0;go 1 s=1&w=1;wind 0 1 3;go 1 w>1");
        y.rule(TABLE, 0);
        dueMean(y, 0, 1, 0, 1);
        Checks.race(y, "lose 3;go 1 s=0&w=0;go 1 s=1&w=1;wind 0 1 5");
        // -2, then 1 or -2
        dueMean(y, 0, 2, -5, 2);
        Checks.race(y, "tear 50 s=0;lose 5");
        // -5, then 0 or, sail 0 torn, -5
        dueMean(y, 0, 2, -15, 2);
    }

    private static void sure() {
        says("SURE: how likely it makes m or more.");
        NineSails x = with(1, "go 7 w=0;tear 1 s=0;wind 0 1 1");
        x.rule(TABLE, 0);
        dueSure(x, 0, 1, 7, 1, 1);
        dueSure(x, 0, 1, 8, 0, 1);
        dueSure(x, 0, 2, 7, 1, 1);
        dueSure(x, 0, 2, 8, 891, 1000);
        dueSure(x, 0, 2, 14, 891, 1000);
        dueSure(x, 0, 2, 15, 0, 1);
        dueSure(x, 0, 3, 15, 793881, 1000000);
        dueSure(x, 0, 3, 21, 793881, 1000000);
        dueSure(x, 0, 3, 14, 891, 1000);
        dueSure(x, 0, 4, 28, 707347971, 1000000000);
        dueSure(x, 0, 4, 29, 0, 1);
        says("SURE: m (-400 .. 400) or more in n HOURS (1 .. 4). NO.");
        NineSails fast = with(1, "go 99 s=0");
        fast.rule(TABLE, 0);
        for (int n = 1; n <= 4; n++) {
            dueSure(fast, 0, n, 99 * n, 1, 1);
            dueSure(fast, 0, n, 99 * n + 1, 0, 1);
            dueSure(fast, 0, n, 400, 0, 1);
            dueSure(fast, 0, n, -400, 1, 1);
        }
        NineSails slow = with(2, "lose 99");
        slow.rule(TOLD, 0);
        for (int hour = 0; hour < 4; hour++) slow.told(0, hour, hour % 2);
        for (int n = 1; n <= 4; n++) {
            dueSure(slow, 0, n, -99 * n, 1, 1);
            dueSure(slow, 0, n, -99 * n + 1, 0, 1);
            dueSure(slow, 0, n, -400, 1, 1);
            due("at the worst", slow.worst(0, n), -99 * n);
        }
        for (int m : Sentences.outside(-400, 400)) for (int part = 0; part < 2; part++) due("m " + m, slow.sure(0, 4, m, part), NO);
        for (int n : Sentences.outside(1, 4)) for (int part = 0; part < 2; part++) due("n " + n, slow.sure(0, n, 0, part), NO);
    }

    private static void edge() {
        says("EDGE: the v (0 .. 9) with which a HOLD makes the most in the mean in n HOURS (of several the least).");
        for (int more = 0; more <= 11; more++) {
            NineSails x = with(2, "go 5 s=1;go " + (5 + more) + " s=0;lose " + (more + 1));
            x.hoist(1);
            due("not for " + more + " in an hour", x.edge(1), more < 9 ? more + 1 : 0);
            due("for " + more + " in two, if that is more than one", x.edge(2), more == 0 ? 1 : 0);
            Checks.race(x, "go 5 s=1;go " + (5 + more) + " s=0;lose " + more);
            due("of several the least", x.edge(1), 0);
        }
        NineSails x = with(2, "go 5 s=1;go 9 s=0;lose 16");
        x.hoist(1);
        for (int n = 1; n <= 3; n++) due("4 more in " + n + " hours", x.edge(n), 5);
        due("4 more in 4 hours, as good", x.edge(4), 0);
        Checks.race(x, "go 5 s=1;go 9 s=0;lose 17");
        due("4 more in 4 hours", x.edge(4), 5);
        // All lose: 20 for the first, and with 3 or less 20 for the second.
        x = with(2, "go 10 s=0&t=0;go 1 s=0&t=1;go 4 s=1&t=1;lose 20");
        due("the least loss", x.edge(2), 4);
        for (int n : Sentences.outside(1, 4)) due("n " + n, x.edge(n), -2);
        for (int n = 1; n <= 4; n++) due("no sails", new NineSails().edge(n), 0);
    }

    private static void few() {
        says("FEW: the set of k SAILS or fewer (of those ABOARD) with which, none else being ABOARD, a RULE makes the most in the mean in n HOURS (1 .. 3)");
        // Each is good for an hour.
        NineSails x = with(6, "go 9 s=5;go 8 s=4;go 7 s=3;go 6 s=2;go 5 s=1;go 4 s=0;tear 99 s<9;tear 1 s<9");
        x.rule(TABLE, 0);
        int[][] want = {{0, 0, 0}, {32, 32, 32}, {32, 48, 48}, {32, 48, 56}};
        for (int k = 0; k <= 6; k++) {
            for (int n = 1; n <= 3; n++) due(k + " in " + n + " hours", x.few(0, k, n), want[Math.min(k, 3)][n - 1]);
        }
        x.make(5, 1, false);
        due("of those aboard", x.few(0, 2, 3), 24);
        x.make(4, 0, false);
        due("torn ones are none of the fewest", x.few(0, 6, 3), 14);
        x.make(0, 1, false);
        for (int k = 3; k <= 6; k++) due("all that are left", x.few(0, k, 3), 14);
        for (int k : Sentences.outside(0, 6)) due("k " + k, x.few(0, k, 1), -2);
        for (int n : Sentences.outside(1, 3)) due("n " + n, x.few(0, 1, n), -2);
    }

    private static void fewOfSeveral() {
        says("of several that of the fewest, then the least as bits");
        NineSails x = with(3, "go 5 s<3;tear 99 s<2;tear 1 s<2");
        x.rule(TABLE, 0);
        // Sail 2 alone makes ten, as any two do.
        due("one rather than two", x.few(0, 6, 2), 4);
        due("of three ones the least", x.few(0, 6, 1), 1);
        // Three hours want sail 2 too, by itself.
        due("one rather than three", x.few(0, 6, 3), 4);
        x = with(6, "go 5 s<9;tear 99 s<9;tear 1 s<9");
        x.rule(TABLE, 0);
        due("of as many twos the least", x.few(0, 2, 3), 3);
        due("of as many threes the least", x.few(0, 6, 3), 7);
        x.make(0, 1, false);
        due("of as many twos the least", x.few(0, 2, 3), 6);
        x.make(1, 1, false);
        due("of as many threes the least", x.few(0, 3, 3), 28);
        due("of as many ones the least", x.few(0, 1, 3), 4);
        Checks.race(x, "lose 1");
        due("none rather than one that loses", x.few(0, 6, 3), 0);
        Checks.race(x, "lose 0");
        due("none rather than one that makes nothing", x.few(0, 6, 3), 0);
        x = new NineSails();
        x.rule(TABLE, 0);
        due("no sails", x.few(0, 6, 3), 0);
    }

    private static void fewTakenDown() {
        says("(one that is up and not of it is taken down first, for nothing)");
        NineSails x = with(2, "lose 9;go 5 s=0&w=3");
        x.rule(RULE, 0);
        x.hoist(0);
        due("none, as that costs nothing", x.few(0, 6, 2), 0);
        Checks.race(x, "lose 9;go 5 s=0");
        due("the one up", x.few(0, 6, 2), 1);
        due("none of none", x.few(0, 0, 2), 0);
        x.sail(0, 5);
        x.rule(TABLE, 0);
        x.set(0, 5);
        x.hoist(2);
        x.set(0, 4);
        Checks.race(x, "go 5 s=2;go 4 s=0;lose 1");
        due("the one up may, with too few hands", x.few(1, 6, 1), 4);
        due("and by its rule", x.few(0, 6, 1), 4);
        Checks.race(x, "go 5 s=2;go 6 s=0;lose 1");
        due("as good, and the least", x.few(1, 6, 1), 1);
        due("is up still", x.ship(0), 2);
        x = with(3, "go 5 s=0&t=0;go 5 s=1&t=1;lose 4");
        x.rule(TABLE, 0);
        x.hoist(0);
        // 5 and 5 - 4, sail 0 staying up; alone it makes 5.
        due("one that is up and of it stays up", x.few(0, 6, 2), 3);
        x = with(2, "go 6 s=0;go 9 s=1;lose 5");
        x.rule(HOLD, 5);
        x.hoist(0);
        // 6; or 9 - 5, if it is as if none were up.
        due("one that is up", x.few(0, 6, 1), 1);
        Checks.race(x, "go 6 s=0;go 9 s=1;lose 2");
        due("as if none were up", x.few(0, 6, 1), 2);
    }

    private static void torn() {
        says("TORN: what a SAIL torn would cost: MEAN of a RULE in n HOURS as it is, less that if it were torn (down, if it is up).");
        NineSails x = with(3, "go 5 s=0;go 9 s=1;lose 6");
        x.rule(TABLE, 0);
        x.rule(RULE, 0);
        x.hoist(0);
        long[] ofUp = {0, 0, 0, 0};
        long[] ofOther = {-2, 2, 6, 10};
        for (int n = 1; n <= 4; n++) {
            due("the one up, in " + n, x.torn(0, 0, n, 0), ofUp[n - 1]);
            due("below", x.torn(0, 0, n, 1), 1);
            due("the best, in " + n, x.torn(0, 1, n, 0), ofOther[n - 1]);
            due("below", x.torn(0, 1, n, 1), 1);
            due("one of no use, in " + n, x.torn(0, 2, n, 0), 0);
            due("down, in " + n, x.torn(1, 0, n, 0), 5L * n);
        }
        x.rule(HOLD, 5);
        // Down, sail 1 is 9 above none; up it would be 4 above sail 0.
        due("down, the hold changes", x.torn(2, 0, 1, 0), 5 - (9 - 6));
        x.make(1, 0, false);
        due("another is torn as it is", x.torn(0, 0, 1, 0), 5 - (0 - 6));
        x.make(1, 0, true);
        Checks.race(x, "go 5 s=0;go 10 s=1;tear 25 s=1");
        due("a fraction, above", x.torn(0, 1, 2, 0), 35);
        due("a fraction, below", x.torn(0, 1, 2, 1), 4);
        says("TORN (n 1 .. 4). NO: rule, sail (torn, too), n, part.");
        for (int n : Sentences.outside(1, 4)) due("n " + n, x.torn(0, 0, n, 0), NO);
        x.make(1, 0, false);
        due("torn", x.torn(0, 1, 1, 0), NO);
        due("torn", x.torn(0, 1, 4, 1), NO);
        x.make(1, 0, true);
        x.make(1, 1, false);
        due("ashore", x.torn(0, 1, 1, 0), 0);
        due("ashore, below", x.torn(0, 1, 1, 1), 1);
    }

    private static void sleep() {
        says("SLEEP: MEAN of a RULE in n HOURS as it is, less that with one HAND fewer awake (0 at least).");
        NineSails x = new NineSails();
        for (int hands = 1; hands <= 3; hands++) x.sail(0, hands);
        Checks.race(x, "go 1 s=0;go 3 s=1;go 7 s=2;tear 50 s=2");
        x.rule(TABLE, 0);
        int[] cost = {0, 1, 2, 4, 0};
        for (int awake = 0; awake <= 4; awake++) {
            x.set(0, awake);
            due("an hour with " + awake, x.sleep(0, 1, 0), cost[awake]);
            due("below", x.sleep(0, 1, 1), 1);
        }
        x.set(0, 3);
        // 7 and 7 or 3, less 3 and 3
        due("two hours", x.sleep(0, 2, 0), 6);
        // 7, 7 or 3, and half of one half 7, else 3: less 9
        due("three hours", x.sleep(0, 3, 0), 7);
        due("three hours, below", x.sleep(0, 3, 1), 1);
        due("four hours", x.sleep(0, 4, 0), 15);
        due("four hours, below", x.sleep(0, 4, 1), 2);
        due("as many awake", x.ship(4), 3);
        x.set(0, 0);
        for (int n = 1; n <= 4; n++) due("none fewer than none", x.sleep(0, n, 0), 0);
        for (int n : Sentences.outside(1, 4)) due("n " + n, x.sleep(0, n, 0), NO);
        x.set(0, 1);
        x.hoist(0);
        due("the one up stays up", x.sleep(0, 4, 0), 0);
    }

    private static void dueRow(String call, NineSails x, int n, int... row) {
        for (int wind = 0; wind < 4; wind++) due(call + ", wind " + wind + " in " + n, x.lines(n, wind), row[wind]);
    }

    private static void lines() {
        says("LINES: for a WATCH the row of SAILS (or none; none first) by WINDS with which it makes the most in the mean in n HOURS (1, 2)");
        NineSails x = with(6, "go 5 s=5;go 4 s=4;go 1 s=0;go 9 s=3&w=3;lose 2;wind 2 3 1;wind 0 3 1");
        for (int wind = 0; wind < 4; wind++) {
            x.set(1, wind);
            int[] now = {-5, -5, -5, -5};
            now[wind] = wind == 3 ? 3 : 5;
            dueRow("now", x, 1, now);
            if (wind == 0 || wind == 2) now[3] = 3;
            dueRow("now, then", x, 2, now);
        }
        x.set(1, 0);
        x.hoist(5);
        dueRow("none: the one up stays", x, 1, -5, -5, -5, -5);
        dueRow("none: the one up stays, but in wind 3", x, 2, -5, -5, -5, 3);
        for (int wind = 0; wind < 4; wind++) for (int n : Sentences.outside(1, 2)) due("n " + n, x.lines(n, wind), -2);
        for (int n = 0; n <= 3; n++) for (int wind : Sentences.outside(0, 3)) due("wind " + wind, x.lines(n, wind), -1);
        dueRow("no sails", new NineSails(), 1, -5, -5, -5, -5);
        dueRow("no sails", new NineSails(), 2, -5, -5, -5, -5);
    }

    private static void linesFirst() {
        says("of several the first as a row.");
        NineSails x = with(3, "go 5 s<3;lose 2;wind 1 0 5;wind 1 2 1");
        x.set(1, 1);
        dueRow("of three the least", x, 1, -5, 0, -5, -5);
        // Once up it stays: none told for the winds that follow.
        dueRow("none for those that follow", x, 2, -5, 0, -5, -5);
        Checks.race(x, "go 5 s<2;go 9 s=2&w=0;lose 2;wind 1 0 5;wind 1 2 1");
        dueRow("the least now, sail 2 then", x, 2, 2, 0, -5, -5);
        Checks.race(x, "go 5 s<2&w=1;go 3 s=2&w=1;go 9 s=2&w=0;lose 2;wind 1 0 10");
        // 5 - 2 and 9 - 2 with sail 2 told for wind 0, or 3 - 2 and 9 with none told for it: that comes first.
        dueRow("wind 0 first", x, 2, -5, 2, -5, -5);
        Checks.race(x, "go 5 s<2&w=1;go 5 s=2&w=1;go 9 s=2&w=0;lose 2;wind 1 0 10");
        dueRow("at once", x, 2, -5, 2, -5, -5);
        x.hoist(1);
        Checks.race(x, "go 6 s=1&w=1;go 4 s=2&w=1;go 9 s=2&w=0;lose 2;wind 1 0 10");
        // 6 and 9 - 2, or 4 - 2 and 9: 13 is more.
        dueRow("then", x, 2, 2, -5, -5, -5);
        // The same with winds 1 and 2, and with winds 2 and 3: winds ahead of them tell none.
        x = with(3, "go 5 s<2&w=2;go 3 s=2&w=2;go 9 s=2&w=1;lose 2;wind 2 1 10");
        x.set(1, 2);
        dueRow("wind 1 first", x, 2, -5, -5, 2, -5);
        Checks.race(x, "go 5 s<2&w=3;go 3 s=2&w=3;go 9 s=2&w=2;lose 2;wind 3 2 10");
        x.set(1, 3);
        dueRow("wind 2 first", x, 2, -5, -5, -5, 2);
        x = with(3, "go 5 s=1&w=0;go 9 s=0&w=1;go 9 s=0&w=3;lose 2;wind 0 1 5;wind 0 3 5");
        dueRow("sail 0 for those that follow", x, 2, 1, 0, -5, 0);
        x = with(3, "go 5 s<3");
        x.make(0, 0, false);
        dueRow("of those that may", x, 1, 1, -5, -5, -5);
    }

    // ---- promises 12 to 23

    private static void ruleRefused() {
        says("A RULE: its number. NONE: kind; BAD: v; FULL: 10.");
        NineSails x = new NineSails();
        for (int kind : Sentences.outside(0, 6)) {
            due("kind " + kind, x.rule(kind, 0), -1);
            for (int v : Sentences.outside(0, 9)) due("kind ahead of v", x.rule(kind, v), -1);
        }
        for (int v : Sentences.outside(0, 9)) due("v " + v, x.rule(6, v), -2);
        due("the first", x.rule(0, 0), 0);
        due("the second", x.rule(6, 9), 1);
        for (int i = 2; i < 9; i++) x.rule(i % 7, i);
        due("the tenth", x.rule(6, 0), 9);
        due("full", x.rule(0, 9), -4);
        due("kind ahead of full", x.rule(7, 0), -1);
        due("v ahead of full", x.rule(0, 10), -2);
        due("ten", x.count(2), 10);
    }

    private static void lineAndToldRefused() {
        NineSails x = new NineSails();
        says("LINES of a WATCH (or TOLD) tell a SAIL (0 .. 5, there or not; -1: none) for a WIND: what they told (-5: none). NONE: rule, wind, sail; STATE: it has none.");
        due("no rules", x.line(0, 0, 0), -1);
        for (int kind = 0; kind < 7; kind++) x.rule(kind, 0);
        for (int kind = 0; kind < 7; kind++) {
            for (int wind : Sentences.outside(0, 3)) due("wind " + wind + " of kind " + kind, x.line(kind, wind, 0), -1);
            for (int sail : Sentences.outside(-1, 5)) due("sail " + sail + " of kind " + kind, x.line(kind, 0, sail), -1);
            for (int wind = 0; wind < 4; wind++) {
                int was = -5;
                for (int sail = -1; sail <= 5; sail++) {
                    due("told of kind " + kind, x.line(kind, wind, sail), kind < WATCH ? -3 : was);
                    was = sail < 0 ? -5 : sail;
                }
            }
        }
        for (int rule : Sentences.outside(0, 6)) due("rule " + rule, x.line(rule, 0, 0), -1);
        says("The ROW of a TOLD one tells a SAIL (0 .. 5, there or not; -1: none) for an HOUR (0 .. 4): what it told (-5: none). NONE: rule, hour, sail; STATE: it has none.");
        x = new NineSails();
        due("no rules", x.told(0, 0, 0), -1);
        for (int kind = 0; kind < 7; kind++) x.rule(kind, 0);
        for (int kind = 0; kind < 7; kind++) {
            for (int hour : Sentences.outside(0, 4)) due("hour " + hour + " of kind " + kind, x.told(kind, hour, 0), -1);
            for (int sail : Sentences.outside(-1, 5)) due("sail " + sail + " of kind " + kind, x.told(kind, 0, sail), -1);
            for (int hour = 0; hour < 5; hour++) {
                int was = -5;
                for (int sail = -1; sail <= 5; sail++) {
                    due("told of kind " + kind, x.told(kind, hour, sail), kind < TOLD ? -3 : was);
                    was = sail < 0 ? -5 : sail;
                }
            }
        }
        for (int rule : Sentences.outside(0, 6)) due("rule " + rule, x.told(rule, 0, 0), -1);
    }

    private static void picksAndGoRefused() {
        says("What a RULE PICKS now; -5: none. NONE.");
        NineSails x = with(1, "go 5 s=0;wind 0 1 3");
        due("no rules", x.picks(0), -1);
        for (int i = 0; i < 10; i++) x.rule(i % 2, 0);
        for (int rule : Sentences.outside(0, 9)) due("rule " + rule, x.picks(rule), -1);
        due("the first", x.picks(0), -5);
        due("the last", x.picks(9), 0);
        says("AN HOUR by a RULE: whether the SAIL tore, the WIND then: MILES made. -1001: NONE: rule, wind; -1002: STATE:");
        due("no rules", new NineSails().go(0, false, 0), -1001);
        for (int rule : Sentences.outside(0, 9)) {
            due("rule " + rule, x.go(rule, false, 0), -1001);
            due("rule ahead of what can't be", x.go(rule, true, 0), -1001);
        }
        for (int wind : Sentences.outside(0, 3)) {
            due("wind " + wind, x.go(9, false, wind), -1001);
            due("wind ahead of what can't be", x.go(9, true, wind), -1001);
        }
        due("it can't tear", x.go(9, true, 0), -1002);
        due("wind 2 never follows", x.go(9, false, 2), -1002);
        due("both", x.go(9, true, 2), -1002);
        due("the last rule", x.go(9, false, 1), 5);
        due("the first rule", x.go(0, false, 1), 5);
    }

    private static void meanAndSureRefused() {
        says("MEAN in n HOURS (1 .. 4); part 0 above, 1 below the line. NO.");
        NineSails x = with(1, "go 5 s=0");
        for (int part = 0; part < 2; part++) {
            due("no rules", x.mean(0, 1, part), NO);
            due("no rules", x.sure(0, 1, 0, part), NO);
        }
        for (int i = 0; i < 10; i++) x.rule(i % 2, 0);
        for (int rule : Sentences.outside(0, 9)) due("rule " + rule, x.mean(rule, 1, 0), NO);
        for (int n : Sentences.outside(1, 4)) due("n " + n, x.mean(9, n, 0), NO);
        for (int part : Sentences.outside(0, 1)) due("part " + part, x.mean(9, 1, part), NO);
        due("the first rule", x.mean(0, 4, 0), 0);
        due("the last rule, above", x.mean(9, 4, 0), 20);
        due("the last rule, below", x.mean(9, 4, 1), 1);
        says("SURE: m (-400 .. 400) or more in n HOURS (1 .. 4). NO.");
        for (int rule : Sentences.outside(0, 9)) due("rule " + rule, x.sure(rule, 1, 0, 0), NO);
        for (int n : Sentences.outside(1, 4)) due("n " + n, x.sure(9, n, 0, 0), NO);
        for (int m : Sentences.outside(-400, 400)) due("m " + m, x.sure(9, 1, m, 0), NO);
        for (int part : Sentences.outside(0, 1)) due("part " + part, x.sure(9, 1, 0, part), NO);
        due("m 400", x.sure(9, 4, 400, 0), 0);
        due("m 20", x.sure(9, 4, 20, 0), 1);
        due("m 21", x.sure(9, 4, 21, 0), 0);
        due("m -400", x.sure(0, 4, -400, 0), 1);
        due("m 0", x.sure(0, 4, 0, 0), 1);
        due("m 1", x.sure(0, 4, 1, 0), 0);
    }

    private static void edgeAndFewRefused() {
        says("EDGE in n HOURS (1 .. 4). BAD.");
        NineSails x = with(2, "go 5 s=0");
        for (int n : Sentences.outside(1, 4)) due("n " + n, x.edge(n), -2);
        for (int n = 1; n <= 4; n++) due("n " + n, x.edge(n), 0);
        says("FEW, as bits of SAILS. NONE: rule; BAD: k (0 .. 6), n (1 .. 3).");
        due("no rules", x.few(0, 1, 1), -1);
        x.rule(TABLE, 0);
        for (int rule : Sentences.outside(0, 0)) {
            due("rule " + rule, x.few(rule, 1, 1), -1);
            for (int k : Sentences.outside(0, 6)) due("rule ahead of k", x.few(rule, k, 1), -1);
            for (int n : Sentences.outside(1, 3)) due("rule ahead of n", x.few(rule, 1, n), -1);
        }
        for (int k : Sentences.outside(0, 6)) for (int n = 0; n <= 4; n++) due("k " + k, x.few(0, k, n), -2);
        for (int n : Sentences.outside(1, 3)) for (int k = 0; k <= 6; k++) due("n " + n, x.few(0, k, n), -2);
        for (int n = 1; n <= 3; n++) for (int k = 0; k <= 6; k++) due("k " + k + ", n " + n, x.few(0, k, n), k == 0 ? 0 : 1);
    }

    private static void tornSleepLinesRefused() {
        says("TORN (n 1 .. 4). NO: rule, sail (torn, too), n, part.");
        NineSails x = with(6, "go 5 s=0;go 7 s=5");
        for (int part = 0; part < 2; part++) {
            due("no rules", x.torn(0, 0, 1, part), NO);
            due("no rules", x.sleep(0, 1, part), NO);
        }
        x.rule(TABLE, 0);
        for (int rule : Sentences.outside(0, 0)) due("rule " + rule, x.torn(rule, 0, 1, 0), NO);
        for (int sail : Sentences.outside(0, 5)) due("sail " + sail, x.torn(0, sail, 1, 0), NO);
        for (int n : Sentences.outside(1, 4)) due("n " + n, x.torn(0, 0, n, 0), NO);
        for (int part : Sentences.outside(0, 1)) due("part " + part, x.torn(0, 0, 1, part), NO);
        due("the first", x.torn(0, 0, 4, 0), 0);
        due("the last", x.torn(0, 5, 4, 0), 8);
        due("the last, below", x.torn(0, 5, 4, 1), 1);
        says("SLEEP (n 1 .. 4). NO.");
        for (int rule : Sentences.outside(0, 0)) due("rule " + rule, x.sleep(rule, 1, 0), NO);
        for (int n : Sentences.outside(1, 4)) due("n " + n, x.sleep(0, n, 0), NO);
        for (int part : Sentences.outside(0, 1)) due("part " + part, x.sleep(0, 1, part), NO);
        due("one of four", x.sleep(0, 4, 0), 0);
        x.set(0, 1);
        due("one of one", x.sleep(0, 4, 0), 28);
        due("one of one, below", x.sleep(0, 4, 1), 1);
        says("LINES: the SAIL for a WIND (-5: none) in n HOURS (1, 2). NONE: wind; BAD.");
        for (int n : new int[] {LEAST, 0, 1, 2, 3, MOST}) for (int wind : Sentences.outside(0, 3)) due("wind " + wind, x.lines(n, wind), -1);
        for (int n : Sentences.outside(1, 2)) for (int wind = 0; wind < 4; wind++) due("n " + n, x.lines(n, wind), -2);
        for (int n = 1; n <= 2; n++) for (int wind = 0; wind < 4; wind++) due("n " + n, x.lines(n, wind), wind == 0 ? 5 : -5);
    }
}
