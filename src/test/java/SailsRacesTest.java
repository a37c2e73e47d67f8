/** Promises 1 to 11, each by hand. */
public final class SailsRacesTest {
    private static final Checks CHECKS = new Checks();

    private static void due(String call, long got, long want) { CHECKS.due(call, got, want); }

    public static void main(String[] args) {
        aNewObject();
        sail();
        make();
        of();
        set();
        hoist();
        ship();
        feed();
        raceNumbers();
        raceFaults();
        raceHolds();
        speed();
        tests();
        follows();
        CHECKS.end();
    }

    private static void aNewObject() {
        NineSails x = new NineSails();
        for (int i = 0; i < 6; i++) due("1 count", x.count(i), 0);
        int[] ship = {-5, 0, 0, 0, 4};
        for (int i = 0; i < 5; i++) due("1 ship", x.ship(i), ship[i]);
        due("1 of", x.of(0, 0), -1);
        due("1 speed", x.speed(0, 0, 0, 0), -1);
        due("1 follows itself", x.follows(2, 2), 10);
        due("1 follows another", x.follows(2, 1), 0);
        due("1 undo", x.undo(), -3);
        due("1 trace", x.trace(0), -1);
        for (int t = 0; t < 6; t++) due("1 read", x.read(t, 0), Long.MIN_VALUE);
        due("1 another has its own", new NineSails().count(0), 0);
    }

    private static void sail() {
        NineSails x = new NineSails();
        due("2 weight", x.sail(-1, 1), -2);
        due("2 weight", x.sail(10, 1), -2);
        due("2 hands", x.sail(0, 0), -2);
        due("2 hands", x.sail(0, 10), -2);
        due("2 extremes", x.sail(Integer.MIN_VALUE, Integer.MAX_VALUE), -2);
        due("2 none came", x.count(0), 0);
        due("2 least", x.sail(0, 1), 0);
        due("2 most", x.sail(9, 9), 1);
        for (int i = 2; i < 6; i++) due("2 more", x.sail(i, i), i);
        due("2 full", x.sail(1, 1), -4);
        due("2 bad ahead of full", x.sail(10, 1), -2);
        due("2 still six", x.count(0), 6);
        for (int i = 0; i < 6; i++) {
            due("2 whole", x.of(i, 2), 1);
            due("2 aboard", x.of(i, 3), 1);
        }
        due("2 weight of 1", x.of(1, 0), 9);
        due("2 hands of 1", x.of(1, 1), 9);
    }

    private static void make() {
        NineSails x = new NineSails();
        due("3 no sail", x.make(0, 0, true), -1);
        x.sail(1, 1);
        x.sail(2, 2);
        due("3 sail", x.make(2, 0, true), -1);
        due("3 sail", x.make(-1, 0, true), -1);
        due("3 what", x.make(0, 2, true), -1);
        due("3 what", x.make(0, -1, true), -1);
        due("3 tears", x.make(1, 0, false), 1);
        due("3 is torn", x.of(1, 2), 0);
        due("3 is aboard", x.of(1, 3), 1);
        due("3 torn again", x.make(1, 0, false), 0);
        due("3 mends", x.make(1, 0, true), 0);
        due("3 whole again", x.make(1, 0, true), 1);
        due("3 ashore", x.make(0, 1, false), 1);
        due("3 is ashore", x.of(0, 3), 0);
        due("3 is whole", x.of(0, 2), 1);
        due("3 aboard", x.make(0, 1, true), 0);
        x.hoist(0);
        due("3 up and torn", x.make(0, 0, false), -3);
        due("3 up and ashore", x.make(0, 1, false), -3);
        due("3 up, what first", x.make(0, 2, false), -1);
        due("3 up and whole", x.make(0, 0, true), 1);
        due("3 up and aboard", x.make(0, 1, true), 1);
        due("3 another than is up", x.make(1, 0, false), 1);
        due("3 nothing changed", x.of(0, 2) + x.of(0, 3), 2);
    }

    private static void of() {
        NineSails x = new NineSails();
        x.sail(3, 4);
        x.sail(7, 5);
        due("4 sail", x.of(2, 0), -1);
        due("4 sail", x.of(-1, 0), -1);
        due("4 what", x.of(0, 5), -1);
        due("4 what", x.of(0, -1), -1);
        due("4 weight", x.of(0, 0), 3);
        due("4 hands", x.of(0, 1), 4);
        due("4 may, as many hands as awake", x.of(0, 4), 1);
        due("4 may not, too many hands", x.of(1, 4), 0);
        x.set(0, 5);
        due("4 may then", x.of(1, 4), 1);
        x.hoist(1);
        x.set(0, 0);
        due("4 may, as it is up", x.of(1, 4), 1);
        due("4 may not", x.of(0, 4), 0);
        x.set(0, 9);
        x.make(0, 1, false);
        due("4 not aboard", x.of(0, 4), 0);
        x.make(0, 1, true);
        x.make(0, 0, false);
        due("4 torn", x.of(0, 4), 0);
    }

    private static void set() {
        NineSails x = new NineSails();
        due("5 what", x.set(3, 0), -1);
        due("5 what", x.set(-1, 0), -1);
        due("5 what ahead of n", x.set(3, -1), -1);
        due("5 hands were", x.set(0, 9), 4);
        due("5 hands", x.set(0, 10), -2);
        due("5 hands", x.set(0, -1), -2);
        due("5 hands were", x.set(0, 0), 9);
        due("5 wind was", x.set(1, 3), 0);
        due("5 wind", x.set(1, 4), -2);
        due("5 wind", x.set(1, -1), -2);
        due("5 hour was", x.set(2, 99), 0);
        due("5 hour", x.set(2, 100), -2);
        due("5 hour", x.set(2, -1), -2);
        due("5 the wind is", x.ship(1), 3);
        due("5 the hour is", x.ship(2), 99);
        due("5 hands are", x.ship(4), 0);
        due("5 no miles", x.ship(3), 0);
    }

    private static void hoist() {
        NineSails x = new NineSails();
        due("6 none for none", x.hoist(-1), -5);
        due("6 no sail", x.hoist(0), -1);
        x.sail(1, 4);
        x.sail(1, 5);
        x.sail(1, 1);
        due("6 numbers", x.hoist(3), -1);
        due("6 numbers", x.hoist(-2), -1);
        due("6 hands", x.hoist(1), -3);
        due("6 none was", x.hoist(0), -5);
        due("6 the same", x.hoist(0), 0);
        due("6 another", x.hoist(2), 0);
        x.make(0, 0, false);
        due("6 torn", x.hoist(0), -3);
        x.make(0, 0, true);
        x.make(0, 1, false);
        due("6 not aboard", x.hoist(0), -3);
        due("6 still up", x.ship(0), 2);
        x.set(0, 0);
        due("6 up may stay", x.hoist(2), 2);
        due("6 down", x.hoist(-1), 2);
        due("6 is down", x.ship(0), -5);
        due("6 no hands then", x.hoist(2), -3);
        due("6 no miles", x.ship(3), 0);
    }

    private static void ship() {
        NineSails x = new NineSails();
        due("7 what", x.ship(5), -1001);
        due("7 what", x.ship(-1), -1001);
        x.sail(0, 1);
        Checks.race(x, "go 7 s=0;lose 9");
        x.rule(1, 0);
        x.go(0, false, 0);
        due("7 miles below 0", x.ship(3), -2);
        due("7 hour", x.ship(2), 1);
        due("7 up", x.ship(0), 0);
        x.go(0, false, 0);
        due("7 miles", x.ship(3), 5);
    }

    private static void feed() {
        NineSails x = new NineSails();
        due("8 n", x.feed(1, -1), -2);
        due("8 n", x.feed(1, 5), -2);
        due("8 none", x.feed(65, 0), 0);
        // lose as one number, a blank and 12 as another
        due("8 four", x.feed(0x6c6f7365, 4), 4);
        due("8 three", x.feed(0x7f203132, 3), 7);
        due("8 count", x.count(4), 7);
        due("8 it reads", x.race(), 0);
        due("8 empty then", x.count(4), 0);
        for (int i = 1; i <= 24; i++) due("8 on", x.feed(-1, 4), 4 * i);
        due("8 three more", x.feed(-1, 3), 99);
        due("8 full", x.feed(-1, 2), -4);
        due("8 bad ahead of full", x.feed(-1, 5), -2);
        due("8 the last", x.feed(-1, 1), 100);
        due("8 full", x.feed(-1, 1), -4);
        due("8 full", x.feed(-1, 4), -4);
        due("8 none fits", x.feed(-1, 0), 100);
        due("8 no such clause", x.race(), -10);
    }

    private static void raceNumbers() {
        NineSails x = new NineSails();
        for (int i = 0; i < 5; i++) due("9 number", Checks.race(x, "lose " + i), i);
        due("9 count", x.count(1), 5);
        Checks.feed(x, "lose 9");
        due("9 full", x.race(), -4);
        due("9 the text stays", x.count(4), 6);
        Checks.feed(x, "x");
        due("9 full ahead of the fault", x.race(), -4);
        due("9 the text stays", x.count(4), 7);
    }

    private static void fault(String text, int place) {
        NineSails x = new NineSails();
        due("9 '" + text + "'", Checks.race(x, text), place < 0 ? 0 : -10 - place);
        due("9 empty then '" + text + "'", x.count(4), 0);
        due("9 count '" + text + "'", x.count(1), place < 0 ? 1 : 0);
    }

    private static void raceFaults() {
        fault("", 0);
        fault("x", 0);
        fault(" go 1 s=1", 0);
        fault("Go 1 s=1", 0);
        fault(";", 0);
        fault("g", 1);
        fault("gust", 1);
        fault("tea", 3);
        fault("team", 3);
        fault("tears", 4);
        fault("lose", 4);
        fault("lose  1", 5);
        fault("lose -1", 5);
        fault("lose 1", -1);
        fault("lose 00", -1);
        fault("lose 99", -1);
        fault("lose 123", 7);
        fault("lose 1 ", 6);
        fault("lose 1;", 7);
        fault("lose 1;;", 7);
        fault("lose 1; lose 2", 7);
        fault("go", 2);
        fault("go s=1", 3);
        fault("go 5", 4);
        fault("go 5;", 4);
        fault("go 5 ", 5);
        fault("go 5  s=1", 5);
        fault("go 55 s=1", -1);
        fault("go 555 s=1", 5);
        fault("go 5 s", 6);
        fault("go 5 s=", 7);
        fault("go 5 s==1", 7);
        fault("go 5 s=1", -1);
        fault("go 5 s=12", -1);
        fault("go 5 s=123", 9);
        fault("go 5 s=1 ", 8);
        fault("go 5 s=1&", 9);
        fault("go 5 s=1&&t<2", 9);
        fault("go 5 s=1&t<2|h>3", -1);
        fault("go 5 s=1)", 8);
        fault("go 5 (s=1", 9);
        fault("go 5 (s=1;", 9);
        fault("go 5 ()", 6);
        fault("go 5 (s=1)(", 10);
        fault("go 5 !", 6);
        fault("go 5 s!1", 6);
        fault("tear 1 q=1", 7);
        fault("tear 1 s=1|!w>2&(t<13|h=9)", -1);
        fault("go5 s=1", 2);
        fault("lose5", 4);
        fault("wind0 1 2", 4);
        fault("wind  1 2 3", 5);
        fault("wind x 1 2", 5);
        fault("wind 4", 5);
        fault("wind 0", 6);
        fault("wind 0 4", 7);
        fault("wind 00", 6);
        fault("wind 0 1", 8);
        fault("wind 0 1 ", 9);
        fault("wind 0 1 10", -1);
        fault("wind 0 1 100", 11);
        fault("wind 3 3 1", -1);
        fault("go 1 ((((s=1))))", -1);
        fault("go 1 (((((s=1)))))", 9);
        fault("go 1 !!!!s=1", -1);
        fault("go 1 !!!!!s=1", 9);
        fault("go 1 !(!(s=1))", -1);
        fault("go 1 !(!(!s=1))", 9);
        fault("go 1 !(!((s=1)))", 9);
        fault("go 1 !!!!s=1&!!!!s=1|((((s=1))))", -1);
        fault("go 1 (!!s=1&((s=1)))|!s=2", -1);
        fault("go 1 (!!s=1&((!s=1)))|!s=2", -1);
        fault("go 1 (!!s=1&((!!s=1)))|!s=2", 15);
        String nine = "lose 1;lose 2;lose 3;lose 4;lose 5;lose 6;lose 7;lose 8;lose 9;";
        fault(nine + "lose 10", -1);
        fault(nine + "lose 10;", 70);
        fault(nine + "lose 10;lose 1", 70);
        fault(nine, 63);
        fault("go 1 " + "s=1&".repeat(23) + "s=1", -1);
        fault("go 1 " + "s=1&".repeat(23) + "s=", 99);
        fault("go 12 " + "s=1&".repeat(23) + "s=", 100);
        fault("go 1 " + "s=1|".repeat(23) + "s;1", 98);
        fault("lose 1\0", 6);
        fault("lose \3771", 5);
    }

    private static void raceHolds() {
        NineSails x = new NineSails();
        x.sail(0, 1);
        Checks.race(x, "go 5 s=0");
        due("9 holds", x.speed(0, 0, 0, 0), 5);
        due("9 fault", Checks.race(x, "go 6 s=0;go 7 s=0&"), -28);
        due("9 the one that held holds", x.speed(0, 0, 0, 0), 5);
        due("9 another fault", Checks.race(x, "go 6 s=0;go 7 s=0;tear 9"), -34);
        due("9 the next", Checks.race(x, "lose 1"), 1);
        due("9 the newest holds", x.speed(0, 0, 0, 0), 0);
        due("9 the next", Checks.race(x, "go 8 s=0"), 2);
        due("9 the newest holds", x.speed(0, 0, 0, 0), 8);
    }

    private static void speed() {
        NineSails x = new NineSails();
        x.sail(4, 1);
        x.sail(9, 9);
        due("10 no race", x.speed(0, 0, 0, 0), 0);
        due("10 no race", x.speed(0, 0, 0, 1), 0);
        Checks.race(x, "go 60 w=0;go 30 s=0;go 20 t>11;tear 70 h>3;tear 20 h=9;tear 11 w=3;lose 50;go 1 w=2");
        due("10 together", x.speed(0, 0, 0, 0), 90);
        due("10 99 at most", x.speed(0, 0, 12, 0), 99);
        due("10 another", x.speed(1, 0, 0, 0), 60);
        due("10 none", x.speed(1, 1, 0, 0), 0);
        due("10 behind others", x.speed(1, 2, 0, 0), 1);
        due("10 tears", x.speed(0, 0, 0, 1), 70);
        due("10 tears together", x.speed(1, 0, 0, 1), 90);
        due("10 100 at most", x.speed(1, 3, 0, 1), 100);
        due("10 hour 23", x.speed(1, 1, 23, 0), 20);
        due("10 hour 24 is 0", x.speed(1, 1, 24, 0), 0);
        due("10 hour 36 is 12", x.speed(1, 1, 36, 0), 20);
        due("10 hour 99 is 3", x.speed(1, 1, 99, 0), 0);
        due("10 sail", x.speed(2, 0, 0, 0), -1);
        due("10 sail", x.speed(-1, 0, 0, 0), -1);
        due("10 wind", x.speed(0, 4, 0, 0), -1);
        due("10 wind", x.speed(0, -1, 0, 0), -1);
        due("10 what", x.speed(0, 0, 0, 2), -1);
        due("10 what", x.speed(0, 0, 0, -1), -1);
        due("10 hour", x.speed(0, 0, 100, 0), -2);
        due("10 hour", x.speed(0, 0, -1, 0), -2);
        due("10 what ahead of hour", x.speed(0, 0, 100, 2), -1);
        due("10 wind ahead of hour", x.speed(0, 4, 100, 0), -1);
        x.make(0, 0, false);
        x.make(0, 1, false);
        due("10 torn and ashore", x.speed(0, 0, 0, 0), 90);
        x.sail(0, 1);
        due("10 a sail that came since", x.speed(2, 0, 0, 0), 60);
    }

    private static void test(String e, int sail, int wind, int hour, int want) {
        NineSails x = new NineSails();
        for (int i = 0; i < 4; i++) x.sail(2 * i, 1);
        Checks.race(x, "go 1 " + e);
        due("10 " + e, x.speed(sail, wind, hour, 0), want);
    }

    private static void tests() {
        test("s<2", 1, 0, 0, 1);
        test("s<2", 2, 0, 0, 0);
        test("s=2", 2, 0, 0, 1);
        test("s=2", 3, 0, 0, 0);
        test("s>2", 2, 0, 0, 0);
        test("s>2", 3, 0, 0, 1);
        test("h=6", 3, 0, 0, 1);
        test("h=3", 3, 0, 0, 0);
        test("w=3", 0, 3, 0, 1);
        test("w>2", 0, 2, 0, 0);
        test("t=5", 0, 0, 29, 1);
        test("t<10", 0, 0, 99, 1);
        test("t>23", 0, 0, 47, 0);
        test("s=01", 1, 0, 0, 1);
        test("!s=1", 1, 0, 0, 0);
        test("!!s=1", 1, 0, 0, 1);
        test("!s=1&w=1", 0, 0, 0, 0);
        test("!(s=1&w=1)", 0, 0, 0, 1);
        test("s=0|s=1&w=1", 0, 0, 0, 1);
        test("(s=0|s=1)&w=1", 0, 0, 0, 0);
        test("w=1&s=0|s=1", 1, 0, 0, 1);
        test("w=1&(s=0|s=1)", 1, 0, 0, 0);
        test("s=9|s=8|s=7|s=1", 1, 0, 0, 1);
        test("s=1&h=2&w=3&t=4", 1, 3, 4, 1);
        test("s=1&h=2&w=3&t=4", 1, 3, 5, 0);
        test("s=1&s=2|w=1&w=2|t=3", 0, 0, 3, 1);
        test("s=1&s=2|w=1&w=2|t=3", 1, 1, 4, 0);
        test("!(!(s=0|w=1)|t=7)", 0, 0, 6, 1);
        test("!(!(s=0|w=1)|t=7)", 0, 0, 7, 0);
        test("!(!(s=0|w=1)|t=7)", 1, 0, 6, 0);
    }

    private static void follows() {
        NineSails x = new NineSails();
        due("11 a", x.follows(4, 0), -1);
        due("11 a", x.follows(-1, 0), -1);
        due("11 b", x.follows(0, 4), -1);
        due("11 b", x.follows(0, -1), -1);
        due("11 none", x.follows(0, 1), 0);
        due("11 itself", x.follows(3, 3), 10);
        Checks.race(x, "wind 0 1 3;wind 0 3 2;wind 1 0 6;wind 1 2 7;wind 1 3 1;wind 2 3 99;wind 2 2 5;wind 0 3 4");
        int[][] want = {{3, 3, 0, 4}, {6, 0, 4, 0}, {0, 0, 0, 10}, {0, 0, 0, 10}};
        for (int a = 0; a < 4; a++) {
            for (int b = 0; b < 4; b++) due("11 of " + a + " " + b, x.follows(a, b), want[a][b]);
        }
        Checks.race(x, "wind 3 0 9;wind 3 0 0;wind 3 1 2;wind 3 3 10");
        due("11 the last", x.follows(3, 0), 0);
        due("11 less", x.follows(3, 1), 2);
        due("11 what is left", x.follows(3, 3), 8);
        due("11 of the race before", x.follows(0, 1), 0);
    }
}
