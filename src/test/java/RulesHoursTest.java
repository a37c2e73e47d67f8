/** Promises 12 to 23, each by hand. */
public final class RulesHoursTest {
    private static final Checks CHECKS = new Checks();
    private static final long NO = Long.MIN_VALUE;
    private static final int RULE = 0, TABLE = 1, HOLD = 2, SAFE = 3, BEST = 4, WATCH = 5, TOLD = 6;

    private static void due(String call, long got, long want) { CHECKS.due(call, got, want); }

    private static void dueFraction(String call, long above, long below, long wantAbove, long wantBelow) {
        due(call + " above", above, wantAbove);
        due(call + " below", below, wantBelow);
    }

    private static void dueMean(NineSails x, int rule, int n, long above, long below) {
        dueFraction("17 mean(" + rule + ", " + n + ")", x.mean(rule, n, 0), x.mean(rule, n, 1), above, below);
    }

    private static void dueSure(NineSails x, int rule, int n, int m, long above, long below) {
        dueFraction("18 sure(" + n + ", " + m + ")", x.sure(rule, n, m, 0), x.sure(rule, n, m, 1), above, below);
    }

    public static void main(String[] args) {
        rule();
        line();
        told();
        picksOfTableAndRule();
        picksOfHold();
        picksOfSafe();
        picksOfBest();
        picksOfWatchAndTold();
        go();
        goRefused();
        goTears();
        meanAndSureOfTearing();
        meanAndSureOfWinds();
        meanBelowNothing();
        meanLate();
        meanRefused();
        edge();
        few();
        fewWithUp();
        torn();
        sleep();
        lines();
        linesOfTies();
        askedChangesNothing();
        CHECKS.end();
    }

    private static void rule() {
        NineSails x = new NineSails();
        due("12 kind", x.rule(-1, 0), -1);
        due("12 kind", x.rule(7, 0), -1);
        due("12 v", x.rule(0, -1), -2);
        due("12 v", x.rule(6, 10), -2);
        due("12 kind first", x.rule(7, 10), -1);
        for (int i = 0; i < 10; i++) due("12 number", x.rule(i % 7, i), i);
        due("12 count", x.count(2), 10);
        due("12 full", x.rule(0, 0), -4);
        due("15 no eleventh", x.picks(10), -1);
        due("12 kind ahead of full", x.rule(7, 0), -1);
        due("12 v ahead of full", x.rule(0, 10), -2);
        for (int i = 0; i < 10; i++) due("12 its kind", x.taken(i, 0), i % 7);
    }

    private static void line() {
        NineSails x = new NineSails();
        due("13 no rule", x.line(0, 0, 0), -1);
        for (int kind = 0; kind < 7; kind++) x.rule(kind, 0);
        for (int kind = 0; kind < 5; kind++) {
            due("13 has none", x.line(kind, 0, 0), -3);
            due("13 wind ahead of state", x.line(kind, 4, 0), -1);
            due("13 sail ahead of state", x.line(kind, 0, 6), -1);
        }
        for (int r = 5; r < 7; r++) {
            due("13 wind", x.line(r, -1, 0), -1);
            due("13 wind", x.line(r, 4, 0), -1);
            due("13 sail", x.line(r, 0, -2), -1);
            due("13 sail", x.line(r, 0, 6), -1);
            for (int wind = 0; wind < 4; wind++) {
                due("13 none at first", x.line(r, wind, 5), -5);
                due("13 was", x.line(r, wind, wind), 5);
                due("13 was", x.line(r, wind, wind), wind);
                due("13 none", x.line(r, wind, -1), wind);
                due("13 was none", x.line(r, wind, -1), -5);
            }
        }
        due("13 rule", x.line(7, 0, 0), -1);
        due("13 rule", x.line(-1, 0, 0), -1);
        x.line(5, 1, 2);
        due("13 each its own", x.line(6, 1, 0), -5);
    }

    private static void told() {
        NineSails x = new NineSails();
        due("14 no rule", x.told(0, 0, 0), -1);
        for (int kind = 0; kind < 7; kind++) x.rule(kind, 0);
        for (int kind = 0; kind < 6; kind++) {
            due("14 has none", x.told(kind, 0, 0), -3);
            due("14 hour ahead of state", x.told(kind, 5, 0), -1);
            due("14 sail ahead of state", x.told(kind, 0, 6), -1);
        }
        due("14 hour", x.told(6, -1, 0), -1);
        due("14 hour", x.told(6, 5, 0), -1);
        due("14 sail", x.told(6, 0, -2), -1);
        due("14 sail", x.told(6, 0, 6), -1);
        for (int hour = 0; hour < 5; hour++) {
            due("14 none at first", x.told(6, hour, 5), -5);
            due("14 was", x.told(6, hour, hour), 5);
            due("14 none", x.told(6, hour, -1), hour);
            due("14 was none", x.told(6, hour, 0), -5);
        }
        due("14 lines are others", x.line(6, 0, 0), -5);
    }

    private static void picksOfTableAndRule() {
        NineSails x = new NineSails();
        due("15 no rule", x.picks(0), -1);
        x.rule(RULE, 0);
        x.rule(TABLE, 0);
        due("15 rule, no sails", x.picks(0), -5);
        due("15 table, no sails", x.picks(1), -5);
        due("15 rule", x.picks(2), -1);
        due("15 rule", x.picks(-1), -1);
        x.sail(1, 1);
        x.sail(2, 2);
        x.sail(3, 3);
        x.sail(4, 5);
        due("15 rule, none up", x.picks(0), -5);
        due("15 table, all still: the least", x.picks(1), 0);
        Checks.race(x, "go 5 s>0;go 9 s=3;go 4 w=1&s=2;go 3 t=6&s=1;tear 9 s=0");
        due("15 table, of several the least", x.picks(1), 1);
        x.set(1, 1);
        due("15 table, by the wind", x.picks(1), 2);
        x.set(0, 5);
        due("15 table, hands awake", x.picks(1), 3);
        x.hoist(3);
        x.set(0, 2);
        due("15 table, the one up may", x.picks(1), 3);
        due("15 rule, the one up may", x.picks(0), 3);
        x.hoist(0);
        due("15 table, hands", x.picks(1), 1);
        due("15 rule keeps", x.picks(0), 0);
        x.set(0, 9);
        x.make(3, 0, false);
        x.set(1, 0);
        x.set(2, 30);
        due("15 table, by the hour", x.picks(1), 1);
        x.make(1, 1, false);
        due("15 table, ashore", x.picks(1), 2);
        x.hoist(-1);
        x.set(0, 0);
        due("15 table, none may", x.picks(1), -5);
    }

    private static void picksOfHold() {
        NineSails x = new NineSails();
        for (int v = 0; v < 10; v++) x.rule(HOLD, v);
        x.sail(1, 1);
        x.sail(1, 1);
        x.sail(1, 1);
        Checks.race(x, "go 5 s=1;go 5 s=2;go 3 s=2&w=1");
        due("15 hold 5, none up", x.picks(5), 1);
        due("15 hold 6, none up", x.picks(6), -5);
        x.hoist(2);
        due("15 hold 0 takes the table's", x.picks(0), 1);
        due("15 hold 1 keeps", x.picks(1), 2);
        x.hoist(1);
        x.set(1, 1);
        due("15 hold 3 at 3 more", x.picks(3), 2);
        due("15 hold 4 at 3 more", x.picks(4), 1);
        x.hoist(0);
        due("15 hold 8 at 8 more", x.picks(8), 2);
        due("15 hold 9 at 8 more", x.picks(9), 0);
        x.hoist(-1);
        x.set(0, 0);
        due("15 hold 0, none may", x.picks(0), -5);
    }

    private static void picksOfSafe() {
        NineSails x = new NineSails();
        x.rule(SAFE, 0);
        x.sail(1, 1);
        x.sail(1, 1);
        Checks.race(x, "go 5 s=0;go 6 s=1&w=2;go 7 s=1&w=3");
        int[] want = {0, 1, 1, 1};
        for (int wind = 0; wind < 4; wind++) {
            x.set(1, wind);
            due("15 safe in " + wind, x.picks(0), want[wind]);
        }
        x.set(1, 1);
        due("16 safe goes by the wind that is", x.go(0, false, 1), 0);
        Checks.race(x, "go 5 s=0;go 6 s=1&w=2");
        int[] then = {0, 1, 0, 0};
        for (int wind = 0; wind < 4; wind++) {
            x.set(1, wind);
            due("15 safe in " + wind, x.picks(0), then[wind]);
        }
    }

    private static void picksOfBest() {
        NineSails x = new NineSails();
        x.rule(BEST, 0);
        x.rule(BEST, 1);
        x.rule(BEST, 2);
        due("15 best, no sails", x.picks(1), -5);
        x.sail(1, 1);
        x.sail(1, 1);
        x.sail(1, 1);
        Checks.race(x, "go 4 s=0;go 8 s=1;go 8 s=2;lose 4");
        due("15 best, none up: the least", x.picks(1), 1);
        due("15 best 0, none up: the least", x.picks(0), 0);
        x.hoist(0);
        due("15 best 1: as good, the one up", x.picks(1), 0);
        due("15 best 2", x.picks(2), 1);
        due("15 best 0 stays", x.picks(0), 0);
        x.hoist(2);
        due("15 best 2: the one up", x.picks(2), 2);
        x.hoist(-1);
        x.make(1, 0, false);
        due("15 best, torn", x.picks(1), 2);
        Checks.race(x, "lose 99;go 1 s=2");
        due("15 best, below 0 all the same", x.picks(1), 2);
        x.set(0, 0);
        due("15 best, none may", x.picks(1), -5);
    }

    private static void picksOfWatchAndTold() {
        NineSails x = new NineSails();
        x.rule(WATCH, 0);
        x.rule(TOLD, 0);
        for (int i = 0; i < 4; i++) x.sail(1, i + 1);
        x.set(0, 3);
        due("15 watch, no lines", x.picks(0), -5);
        due("15 told, no row", x.picks(1), -5);
        x.hoist(0);
        due("15 watch as rule", x.picks(0), 0);
        for (int r = 0; r < 2; r++) {
            x.line(r, 0, 1);
            x.line(r, 1, 5);
            x.line(r, 2, 3);
        }
        int[] want = {1, 0, 0, 0};
        for (int wind = 0; wind < 4; wind++) {
            x.set(1, wind);
            due("15 watch in " + wind, x.picks(0), want[wind]);
            due("15 told in " + wind, x.picks(1), want[wind]);
        }
        x.set(1, 0);
        x.told(1, 0, 2);
        x.told(1, 1, 3);
        x.told(1, 2, 5);
        x.told(1, 4, 2);
        int[] byHour = {2, 1, 1, 1, 2, 1, 1};
        for (int hour = 0; hour < 7; hour++) {
            x.set(2, hour);
            due("15 told at " + hour, x.picks(1), byHour[hour]);
            due("15 watch at " + hour, x.picks(0), 1);
        }
        x.set(2, 24);
        due("15 told at 24, no hour of its row", x.picks(1), 1);
    }

    private static void go() {
        NineSails x = new NineSails();
        x.sail(1, 1);
        x.sail(1, 1);
        x.rule(TABLE, 0);
        x.rule(RULE, 0);
        Checks.race(x, "go 7 s=0;go 9 s=1&w=1;lose 3;wind 0 1 4;wind 1 0 10");
        due("16 none up", x.go(1, false, 0), 0);
        due("16 a sail is set", x.go(0, false, 1), 4);
        due("16 changed", x.go(0, false, 0), 6);
        due("16 kept", x.go(1, false, 0), 0);
        due("16 miles", x.ship(3), 10);
        due("16 hour", x.ship(2), 4);
        due("16 wind", x.ship(1), 0);
        due("16 up", x.ship(0), 1);
    }

    private static void goRefused() {
        NineSails x = new NineSails();
        due("16 rule", x.go(0, false, 0), -1001);
        x.rule(TABLE, 0);
        x.rule(RULE, 0);
        due("16 rule", x.go(2, false, 0), -1001);
        due("16 rule", x.go(-1, false, 0), -1001);
        due("16 wind", x.go(0, false, 4), -1001);
        due("16 wind", x.go(0, false, -1), -1001);
        due("16 none tore", x.go(0, true, 0), -1002);
        x.sail(1, 1);
        x.sail(1, 1);
        Checks.race(x, "go 1 s=0;tear 50 s=0&w=1;tear 100 s=0;wind 0 1 3");
        Checks.race(x, "go 1 s=0;tear 50 s=0&w=1;tear 99 s=0&w=2;tear 9 s=0&w=2;wind 0 1 3;wind 2 3 10");
        due("16 tears 0", x.go(0, true, 0), -1002);
        due("16 that wind never follows", x.go(0, false, 2), -1002);
        due("16 none up tore", x.go(1, true, 0), -1002);
        x.set(1, 2);
        due("16 tears 100", x.go(0, false, 3), -1002);
        due("16 itself never follows", x.go(0, true, 2), -1002);
        x.set(2, 99);
        due("16 hour 99", x.go(0, true, 3), -1002);
        due("16 wind ahead of hour 99", x.go(0, true, 4), -1001);
        due("16 nothing changed", x.ship(0), -5);
        due("16 nothing changed", x.ship(3), 0);
        x.set(2, 98);
        due("16 hour 98", x.go(0, true, 3), 1);
        due("16 it is hour 99", x.ship(2), 99);
        due("16 then no more", x.go(0, false, 3), -1002);
    }

    private static void goTears() {
        NineSails x = new NineSails();
        x.sail(1, 1);
        x.sail(1, 1);
        x.rule(TABLE, 0);
        Checks.race(x, "go 9 s=0;go 4 s=1;tear 1 s=0;lose 2;wind 0 3 1");
        due("16 tore", x.go(0, true, 3), 7);
        due("16 none up", x.ship(0), -5);
        due("16 torn", x.of(0, 2), 0);
        due("16 aboard", x.of(0, 3), 1);
        due("16 the wind", x.ship(1), 3);
        due("16 the next", x.go(0, false, 3), 2);
        due("16 up", x.ship(0), 1);
        due("16 whole", x.of(1, 2), 1);
        due("16 the next stays", x.go(0, false, 3), 4);
        due("16 miles", x.ship(3), 13);
    }

    private static void meanAndSureOfTearing() {
        NineSails x = new NineSails();
        x.sail(1, 1);
        x.rule(TABLE, 0);
        Checks.race(x, "go 10 s=0;tear 50 s=0;lose 3");
        dueMean(x, 0, 1, 7, 1);
        dueMean(x, 0, 2, 12, 1);
        dueMean(x, 0, 3, 29, 2);
        dueMean(x, 0, 4, 63, 4);
        dueSure(x, 0, 1, 7, 1, 1);
        dueSure(x, 0, 1, 8, 0, 1);
        dueSure(x, 0, 2, -400, 1, 1);
        dueSure(x, 0, 2, 7, 1, 1);
        dueSure(x, 0, 2, 8, 1, 2);
        dueSure(x, 0, 2, 17, 1, 2);
        dueSure(x, 0, 2, 18, 0, 1);
        dueSure(x, 0, 4, 27, 1, 4);
        dueSure(x, 0, 4, 37, 1, 8);
        dueSure(x, 0, 4, 400, 0, 1);
        due("26 worst", x.worst(0, 4), 7);
        // Torn for sure: the second hour brings nothing.
        Checks.race(x, "go 10 s=0;tear 99 s=0;tear 9 s=0");
        dueMean(x, 0, 4, 10, 1);
        x.hoist(0);
        Checks.race(x, "go 10 s=0;lose 9;tear 1 w=3");
        dueMean(x, 0, 4, 40, 1);
    }

    private static void meanAndSureOfWinds() {
        NineSails x = new NineSails();
        x.sail(1, 1);
        x.sail(1, 1);
        x.rule(TABLE, 0);
        Checks.race(x, "go 10 w=0;go 4 w=1;wind 0 1 3");
        dueMean(x, 0, 1, 10, 1);
        dueMean(x, 0, 2, 91, 5);
        // wind 1 stays: .3 in hour 1, .51 in hour 2
        dueMean(x, 0, 3, 1257, 50);
        dueSure(x, 0, 3, 30, 49, 100);
        dueSure(x, 0, 3, 24, 7, 10);
        dueSure(x, 0, 3, 18, 1, 1);
        due("26 worst", x.worst(0, 3), 18);
        Checks.race(x, "go 10 s=0&w=0;go 6 s=1;go 3 s=1&w=1;lose 2;wind 0 1 5;wind 1 0 5");
        // 8, then 10 in wind 0 or 7 in wind 1
        dueMean(x, 0, 2, 33, 2);
    }

    private static void meanBelowNothing() {
        NineSails x = new NineSails();
        x.sail(1, 1);
        x.sail(1, 1);
        x.rule(TABLE, 0);
        Checks.race(x, "lose 50;go 1 s=0&w=0;go 1 s=1&w=1;wind 0 1 3;wind 1 0 10");
        dueMean(x, 0, 1, -49, 1);
        dueMean(x, 0, 2, -63, 1);
        dueSure(x, 0, 2, -98, 1, 1);
        dueSure(x, 0, 2, -97, 7, 10);
        dueSure(x, 0, 2, -48, 7, 10);
        dueSure(x, 0, 2, -47, 0, 1);
        due("26 worst", x.worst(0, 2), -98);
        due("16 below 0", x.go(0, false, 1), -49);
    }

    /** The hours go on behind 99; the clock of the races with them. */
    private static void meanLate() {
        NineSails x = new NineSails();
        x.sail(1, 1);
        x.rule(TABLE, 0);
        Checks.race(x, "go 1 t=3;go 10 t=4;go 50 t=5");
        x.set(2, 99);
        dueMean(x, 0, 1, 1, 1);
        dueMean(x, 0, 3, 61, 1);
    }

    private static void meanRefused() {
        NineSails x = new NineSails();
        due("17 no rule", x.mean(0, 1, 0), NO);
        due("18 no rule", x.sure(0, 1, 0, 0), NO);
        x.rule(RULE, 0);
        due("17 of nothing, above", x.mean(0, 4, 0), 0);
        due("17 of nothing, below", x.mean(0, 4, 1), 1);
        due("17 rule", x.mean(1, 1, 0), NO);
        due("17 rule", x.mean(-1, 1, 0), NO);
        due("17 n", x.mean(0, 0, 0), NO);
        due("17 n", x.mean(0, 5, 0), NO);
        due("17 part", x.mean(0, 1, 2), NO);
        due("17 part", x.mean(0, 1, -1), NO);
        due("18 rule", x.sure(1, 1, 0, 0), NO);
        due("18 n", x.sure(0, 0, 0, 0), NO);
        due("18 n", x.sure(0, 5, 0, 0), NO);
        due("18 m", x.sure(0, 1, 401, 0), NO);
        due("18 m", x.sure(0, 1, -401, 0), NO);
        due("18 part", x.sure(0, 1, 0, 2), NO);
        due("18 part", x.sure(0, 1, 0, -1), NO);
        due("18 m most", x.sure(0, 1, 400, 0), 0);
        due("18 m least", x.sure(0, 1, -400, 1), 1);
    }

    private static NineSails twoSails() {
        NineSails x = new NineSails();
        x.sail(1, 1);
        x.sail(2, 4);
        x.rule(TABLE, 0);
        x.rule(RULE, 0);
        Checks.race(x, "go 5 s=0;go 9 s=1;lose 6");
        x.hoist(0);
        return x;
    }

    private static void edge() {
        NineSails x = new NineSails();
        due("19 n", x.edge(0), -2);
        due("19 n", x.edge(5), -2);
        for (int n = 1; n < 5; n++) due("19 no sails", x.edge(n), 0);
        x = twoSails();
        due("19 one hour: stay", x.edge(1), 5);
        due("19 two hours: change", x.edge(2), 0);
        due("19 four hours: change", x.edge(4), 0);
        // In wind 1 sail 1 is but 2 faster, and for an hour only.
        Checks.race(x, "go 5 s=0;go 7 s=1&w=1;go 30 s=1&w=2;lose 4;wind 0 1 10;wind 1 2 10");
        due("19 wait for the wind", x.edge(3), 0);
        Checks.race(x, "go 5 s=0;go 7 s=1&w=1;go 30 s=1&w=3;lose 4;wind 0 1 10;wind 1 0 10");
        due("19 not for 2 in two hours", x.edge(2), 3);
        x.hoist(-1);
        // Up at 5 for 5 - 4, and no change for 2 more.
        due("19 with none up", x.edge(2), 3);
        due("19 with none up, one hour", x.edge(1), 0);
        due("19 n", x.edge(Integer.MAX_VALUE), -2);
        x = twoSails();
        Checks.race(x, "go 5 s=0;go 13 s=1;lose 20");
        due("19 not for 8", x.edge(1), 9);
        Checks.race(x, "go 5 s=0;go 14 s=1;lose 20");
        due("19 for 9 it can't be helped", x.edge(1), 0);
    }

    private static void few() {
        NineSails x = new NineSails();
        due("20 no rule", x.few(0, 1, 1), -1);
        x = twoSails();
        due("20 rule", x.few(2, 1, 1), -1);
        due("20 rule first", x.few(2, 7, 4), -1);
        due("20 k", x.few(0, -1, 1), -2);
        due("20 k", x.few(0, 7, 1), -2);
        due("20 n", x.few(0, 1, 0), -2);
        due("20 n", x.few(0, 1, 4), -2);
        due("20 none", x.few(0, 0, 3), 0);
        due("20 one hour", x.few(0, 6, 1), 1);
        due("20 two hours", x.few(0, 6, 2), 2);
        due("20 what is up", x.few(1, 6, 2), 1);
        x.make(1, 1, false);
        due("20 of those aboard", x.few(0, 6, 2), 1);
        x.make(1, 1, true);
        x.make(1, 0, false);
        due("20 a torn one is none of the fewest", x.few(0, 6, 2), 1);
        x.make(1, 0, true);
        Checks.race(x, "go 5 s=0;go 5 s=1");
        due("20 of as few the least", x.few(0, 6, 3), 1);
        Checks.race(x, "go 5 s=0;go 5 s=1&w=1;tear 99 s=0;wind 0 1 10");
        due("20 two", x.few(0, 2, 3), 3);
        due("20 of two one", x.few(0, 1, 3), 2);
        Checks.race(x, "lose 9;go 5 s=0&w=3");
        due("20 rather none", x.few(0, 2, 1), 0);
        x = twoSails();
        x.hoist(-1);
        x.make(0, 1, false);
        due("20 none that is ashore", x.few(0, 6, 3), 2);
        x.make(0, 1, true);
        x.make(0, 0, false);
        due("20 none that is torn", x.few(0, 6, 3), 2);
        due("20 none that is torn", x.few(0, 1, 1), 2);
    }

    private static void fewWithUp() {
        NineSails x = twoSails();
        x.sail(0, 1);
        Checks.race(x, "go 5 s=0;go 9 s=1;lose 1;go 20 s=2&w=3");
        x.hoist(1);
        x.set(0, 1);
        due("20 the one up may", x.few(1, 3, 2), 2);
        due("20 none else by hands", x.few(0, 3, 2), 2);
        x.rule(WATCH, 0);
        x.line(2, 0, 0);
        // As the watch tells, sail 0 with sail 1 aboard too; without sail 0 it keeps sail 1.
        due("20 better without", x.few(2, 3, 1), 2);
        x.rule(HOLD, 5);
        x.hoist(0);
        x.set(0, 9);
        // Sail 1 is 4 more than sail 0, but 9 more than none, once sail 0 is down.
        due("20 down first", x.few(3, 3, 1), 2);
        due("20 nothing changed", x.ship(0), 0);
        due("20 nothing changed", x.of(0, 3), 1);
    }

    private static void torn() {
        NineSails x = twoSails();
        dueFraction("21 sail 1, one hour", x.torn(0, 1, 1, 0), x.torn(0, 1, 1, 1), -2, 1);
        dueFraction("21 sail 1, two hours", x.torn(0, 1, 2, 0), x.torn(0, 1, 2, 1), 2, 1);
        dueFraction("21 sail 0 is not needed", x.torn(0, 0, 2, 0), x.torn(0, 0, 2, 1), 0, 1);
        dueFraction("21 the one up is down", x.torn(1, 0, 4, 0), x.torn(1, 0, 4, 1), 20, 1);
        Checks.race(x, "go 5 s=0;go 10 s=1;tear 25 s=1");
        // 10 and 10 * 3/4 + 5 * 1/4, less 10
        dueFraction("21 a fraction", x.torn(0, 1, 2, 0), x.torn(0, 1, 2, 1), 35, 4);
        due("21 rule", x.torn(2, 0, 1, 0), NO);
        due("21 rule", x.torn(-1, 0, 1, 0), NO);
        due("21 sail", x.torn(0, 2, 1, 0), NO);
        due("21 sail", x.torn(0, -1, 1, 0), NO);
        due("21 n", x.torn(0, 0, 0, 0), NO);
        due("21 n", x.torn(0, 0, 5, 0), NO);
        due("21 part", x.torn(0, 0, 1, 2), NO);
        due("21 part", x.torn(0, 0, 1, -1), NO);
        x.make(1, 0, false);
        due("21 torn", x.torn(0, 1, 1, 0), NO);
        x.make(1, 0, true);
        x.make(1, 1, false);
        due("21 ashore costs nothing", x.torn(0, 1, 1, 0), 0);
        due("21 still up", x.ship(0), 0);
    }

    private static void sleep() {
        NineSails x = twoSails();
        dueFraction("22 two hours", x.sleep(0, 2, 0), x.sleep(0, 2, 1), 2, 1);
        dueFraction("22 one hour", x.sleep(0, 1, 0), x.sleep(0, 1, 1), -2, 1);
        x.set(0, 5);
        dueFraction("22 one alone sleeps", x.sleep(0, 2, 0), x.sleep(0, 2, 1), 0, 1);
        x.set(0, 3);
        dueFraction("22 not needed", x.sleep(0, 2, 0), x.sleep(0, 2, 1), 0, 1);
        x.set(0, 0);
        dueFraction("22 none to sleep", x.sleep(0, 2, 0), x.sleep(0, 2, 1), 0, 1);
        x.set(0, 1);
        dueFraction("22 the one up stays", x.sleep(0, 2, 0), x.sleep(0, 2, 1), 0, 1);
        x.hoist(-1);
        dueFraction("22 none may", x.sleep(0, 2, 0), x.sleep(0, 2, 1), 4, 1);
        due("22 rule", x.sleep(2, 1, 0), NO);
        due("22 n", x.sleep(0, 0, 0), NO);
        due("22 n", x.sleep(0, 5, 0), NO);
        due("22 part", x.sleep(0, 1, 2), NO);
        due("22 part", x.sleep(0, 1, -1), NO);
        due("22 hands stay", x.ship(4), 1);
    }

    private static void dueRow(String call, NineSails x, int n, int... row) {
        for (int wind = 0; wind < 4; wind++) due(call + ", wind " + wind, x.lines(n, wind), row[wind]);
    }

    private static void lines() {
        NineSails x = twoSails();
        due("23 wind", x.lines(1, 4), -1);
        due("23 wind", x.lines(1, -1), -1);
        due("23 wind first", x.lines(3, 4), -1);
        due("23 n", x.lines(0, 0), -2);
        due("23 n", x.lines(3, 0), -2);
        dueRow("23 one hour: as is up", x, 1, -5, -5, -5, -5);
        dueRow("23 two hours: change", x, 2, 1, -5, -5, -5);
        x.hoist(-1);
        dueRow("23 none up: the best", x, 1, 1, -5, -5, -5);
        x.set(1, 2);
        dueRow("23 in another wind", x, 1, -5, -5, 1, -5);
        x.set(1, 0);
        x.sail(3, 1);
        Checks.race(x, "go 5 s=0;go 9 s=1&w=1;go 20 s=2&w=3;wind 0 1 3;wind 0 3 3;lose 2");
        // 0 at first: 5 - 2, then stays, or 9 - 2, or 20 - 2
        dueRow("23 by winds", x, 2, 0, 1, -5, 2);
        x.set(1, 1);
        // From wind 1 no other wind comes.
        dueRow("23 none comes", x, 2, -5, 1, -5, -5);
    }

    private static void linesOfTies() {
        NineSails x = new NineSails();
        dueRow("23 no sails", x, 2, -5, -5, -5, -5);
        x.sail(1, 1);
        x.sail(1, 1);
        x.sail(1, 5);
        Checks.race(x, "go 5 s<2;go 9 s=2;wind 0 1 5;wind 2 0 5");
        dueRow("23 the first of as good ones", x, 2, 0, -5, -5, -5);
        x.set(1, 2);
        // Sail 0 in wind 0 and none told behind it, or the other way round: none comes first.
        dueRow("23 none comes first", x, 2, -5, -5, 0, -5);
        x.hoist(1);
        dueRow("23 the one up is as good", x, 2, -5, -5, -5, -5);
        x.set(0, 5);
        dueRow("23 hands for it", x, 2, -5, -5, 2, -5);
        x.make(2, 0, false);
        dueRow("23 torn", x, 2, -5, -5, -5, -5);
        // In wind 2 sail 1 is no better than the one up in two hours, if sail 0 is told for wind 0.
        x.make(2, 0, true);
        x.hoist(0);
        Checks.race(x, "go 4 s=0;go 6 s=1;lose 2;wind 2 0 10");
        dueRow("23 changed now or then", x, 2, -5, -5, 1, -5);
        Checks.race(x, "go 4 s=0;go 6 s=1;lose 4;wind 2 0 10");
        dueRow("23 as good without", x, 2, -5, -5, -5, -5);
        Checks.race(x, "go 4 s=0&w=2;go 6 s=1&w=2;go 9 s=1&w=0;lose 2;wind 2 0 10");
        // 4 and 9 - 2, or 6 - 2 and 9: the second is more
        dueRow("23 change at once", x, 2, -5, -5, 1, -5);
        Checks.race(x, "go 6 s=0&w=2;go 6 s=1&w=2;go 9 s=1&w=0;lose 2;wind 2 0 10");
        // 6 and 9 - 2 with sail 1 told for wind 0, or 6 - 2 and 9 with none told for it: that row comes first
        dueRow("23 the first as a row", x, 2, -5, -5, 1, -5);
        x = twoSails();
        Checks.race(x, "go 6 s=0&w=0;go 6 s=1&w=0;go 9 s=1&w=2;lose 2;wind 0 2 10");
        // the same, wind 0 being first
        dueRow("23 the first as a row", x, 2, -5, -5, 1, -5);
    }

    private static void askedChangesNothing() {
        NineSails x = twoSails();
        x.squall(1);
        for (int n = 1; n < 5; n++) {
            x.mean(0, n, 0);
            x.sure(0, n, 3, 0);
            x.edge(n);
            x.few(0, 1, n);
            x.torn(0, 0, n, 0);
            x.sleep(0, n, 0);
            x.lines(n, 0);
            x.worst(0, n);
        }
        x.made(0);
        x.picks(0);
        int[] ship = {0, 0, 0, 0, 4};
        for (int i = 0; i < 5; i++) due("asked, ship", x.ship(i), ship[i]);
        int[] count = {2, 1, 2, 1, 0, 0};
        for (int i = 0; i < 6; i++) due("asked, count", x.count(i), count[i]);
        for (int s = 0; s < 2; s++) {
            due("asked, whole", x.of(s, 2), 1);
            due("asked, aboard", x.of(s, 3), 1);
        }
    }
}
