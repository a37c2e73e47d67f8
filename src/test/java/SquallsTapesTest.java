/** Promises 24 to 37, each by hand, and the constants. */
public final class SquallsTapesTest {
    private static final Checks CHECKS = new Checks();
    private static final long NO = Long.MIN_VALUE;

    private static void due(String call, long got, long want) { CHECKS.due(call, got, want); }

    public static void main(String[] args) {
        constants();
        squall();
        made();
        worst();
        judge();
        judgeShort();
        imageAndUndo();
        undoOfSailsSince();
        undoOfRaces();
        acts();
        actsWrapAndRefused();
        trace();
        taken();
        count();
        tape();
        item();
        read();
        shift();
        shiftRefused();
        CHECKS.end();
    }

    private static void constants() {
        due("NONE", NineSails.NONE, -1);
        due("BAD", NineSails.BAD, -2);
        due("STATE", NineSails.STATE, -3);
        due("FULL", NineSails.FULL, -4);
        due("NO", NineSails.NO, Long.MIN_VALUE);
    }

    private static void squall() {
        NineSails x = new NineSails();
        due("24 none", x.squall(-1), 0);
        due("24 wind", x.squall(4), -1);
        due("24 wind", x.squall(-2), -1);
        for (int i = 1; i <= 6; i++) due("24 how many", x.squall(i % 4), i);
        due("24 full", x.squall(0), -4);
        due("24 wind ahead of full", x.squall(4), -1);
        due("24 count", x.count(3), 6);
        due("24 none then", x.squall(-1), 0);
        due("24 count", x.count(3), 0);
        due("24 again", x.squall(3), 1);
        due("24 the wind stays", x.ship(1), 0);
    }

    private static void made() {
        NineSails x = new NineSails();
        due("25 rule", x.made(0), -1001);
        x.rule(1, 0);
        x.rule(0, 0);
        x.rule(6, 0);
        due("25 rule", x.made(3), -1001);
        due("25 rule", x.made(-1), -1001);
        due("25 no sails", x.made(0), 0);
        x.sail(1, 1);
        x.sail(1, 1);
        due("25 no squall", x.made(0), 0);
        Checks.race(x, "go 5 s=0;go 9 s=1&w>1;lose 2;go 30 t=2;tear 99 s=1");
        x.set(1, 3);
        due("25 the wind of now is none of it", x.made(0), 0);
        x.squall(0);
        due("25 one", x.made(0), 3);
        x.squall(2);
        due("25 two, changed", x.made(0), 10);
        x.squall(2);
        due("25 three, none tears", x.made(0), 49);
        x.squall(1);
        due("25 four, changed back", x.made(0), 52);
        due("25 none up", x.made(1), 0);
        x.told(2, 0, 1);
        x.told(2, 3, 0);
        due("25 told by hours", x.made(2), -2 + 9 + 39 + 3);
        x.hoist(0);
        due("25 what is up stays", x.made(1), 5 + 5 + 35 + 5);
        x.set(2, 99);
        // hour 99 is 3, and 101 is 5; hour 98 is 2
        due("25 behind hour 99", x.made(1), 20);
        x.set(2, 98);
        due("25 by the clock", x.made(1), 50);
        x.set(2, 97);
        due("25 by the clock", x.made(1), 50);
        due("25 nothing changed", x.ship(3), 0);
        due("25 nothing changed", x.ship(2), 97);
    }

    private static void worst() {
        NineSails x = new NineSails();
        due("26 rule", x.worst(0, 1), -1001);
        x.rule(1, 0);
        due("26 rule", x.worst(1, 1), -1001);
        due("26 rule", x.worst(-1, 1), -1001);
        due("26 rule first", x.worst(1, 5), -1001);
        due("26 n", x.worst(0, 0), -1002);
        due("26 n", x.worst(0, 5), -1002);
        due("26 nothing", x.worst(0, 4), 0);
        x.sail(1, 1);
        x.sail(1, 1);
        Checks.race(x, "go 9 s=0;go 5 s=1;lose 1;tear 1 s=0&w=2;wind 0 1 1;wind 1 2 1;go 7 w=3");
        due("26 one hour", x.worst(0, 1), 8);
        due("26 two", x.worst(0, 2), 17);
        due("26 three", x.worst(0, 3), 26);
        due("26 four: wind 2 comes, it tears", x.worst(0, 4), 8 + 9 + 9 + 4);
        x.set(1, 2);
        due("26 torn at once", x.worst(0, 4), 8 + 4 + 5 + 5);
        Checks.race(x, "go 9 s=0;go 5 s=1;lose 1;tear 0 s=0&w=2");
        due("26 odds of 0 are none", x.worst(0, 4), 35);
        Checks.race(x, "go 9 s=0;lose 20;tear 99 s=0;tear 1 s=0");
        due("26 below 0", x.worst(0, 4), -11 - 20 - 0);
        x.make(0, 0, true);
        x.set(1, 0);
        Checks.race(x, "go 9 s=0;go 5 s=1&w=0;tear 1 s=0;wind 0 1 1");
        due("26 one of a thousand", x.worst(0, 2), 9);
    }

    private static NineSails withLog(int... items) {
        NineSails x = new NineSails();
        x.sail(1, 1);
        x.sail(1, 5);
        x.sail(1, 4);
        x.tape(2, 0, items.length);
        for (int i = 0; i < items.length; i++) x.item(2, i, items[i]);
        return x;
    }

    private static void judge() {
        NineSails x = withLog(0, 2, 1, 0, -1, 3);
        due("27 tape", x.judge(-1, 0), -1);
        due("27 tape", x.judge(6, 0), -1);
        due("27 none to look at", x.judge(2, 0), -5);
        due("27 none to look at, nothing there", x.judge(0, 0), -5);
        due("27 none to look at, no place", x.judge(2, -1), -5);
        x.squall(0);
        due("27 right", x.judge(2, 0), -5);
        due("27 too many hands", x.judge(2, 2), 0);
        due("27 none is no sail", x.judge(2, 4), 0);
        due("27 no such sail", x.judge(2, 5), 0);
        x.squall(1);
        due("27 two", x.judge(2, 0), -5);
        due("27 the second", x.judge(2, 1), 1);
        x.squall(2);
        due("27 the third", x.judge(2, 0), 2);
        x.set(0, 5);
        x.hoist(1);
        x.set(0, 4);
        due("27 the one up is not at the third hour", x.judge(2, 0), 2);
        due("27 the one up at the first", x.judge(2, 2), 2);
        x.make(2, 0, false);
        due("27 torn", x.judge(2, 0), 1);
        x.make(2, 0, true);
        x.make(2, 1, false);
        due("27 ashore", x.judge(2, 0), 1);
        due("27 up stays", x.ship(0), 1);
        for (int sort = 1; sort < 5; sort++) {
            x.tape(3, sort, 4);
            due("27 no bytes", x.judge(3, 0), -12);
            due("27 no bytes, no place", x.judge(3, -1), -12);
        }
        x.squall(-1);
        due("27 no bytes ahead of none to look at", x.judge(3, 0), -12);
    }

    private static void judgeShort() {
        NineSails x = withLog(1, 1, 0, 0);
        x.set(0, 9);
        x.hoist(1);
        x.set(0, 4);
        for (int i = 0; i < 6; i++) x.squall(i % 4);
        due("27 four looked at", x.judge(2, 0), 104);
        due("27 one looked at", x.judge(2, 3), 101);
        due("27 at its end", x.judge(2, 4), 100);
        due("27 beyond", x.judge(2, 5), 100);
        due("27 far beyond", x.judge(2, Integer.MAX_VALUE), 100);
        due("27 below 0", x.judge(2, -1), 100);
        due("27 far below 0", x.judge(2, Integer.MIN_VALUE), 100);
        due("27 nothing there", x.judge(0, 0), 100);
        x.tape(0, 0, 9);
        x.tape(0, -1, 9);
        due("27 nothing there any more", x.judge(0, 0), 100);
        x.item(2, 3, 1);
        due("27 it was down since", x.judge(2, 0), 3);
        x.item(2, 3, 256);
        due("27 as bytes", x.judge(2, 0), 104);
        x.tape(2, 0, 0);
        due("27 an empty row", x.judge(2, 0), 100);
        NineSails same = withLog(1, 1, 1);
        same.set(0, 5);
        same.hoist(1);
        same.set(0, 0);
        same.squall(0);
        same.squall(0);
        due("27 up from hour to hour", same.judge(2, 0), -5);
    }

    private static void imageAndUndo() {
        NineSails x = new NineSails();
        due("29 none", x.undo(), -3);
        due("28 no sails", x.image(), 0);
        due("29 no sails", x.undo(), 0);
        x.sail(1, 1);
        x.sail(1, 1);
        x.rule(1, 0);
        x.rule(6, 0);
        Checks.race(x, "go 5 s=0;go 9 s=1&w=1;wind 0 1 5;tear 50 s=0");
        x.hoist(0);
        x.set(0, 7);
        x.set(2, 3);
        x.squall(2);
        x.squall(3);
        due("28 two", x.image(), 2);
        x.go(0, true, 1);
        x.set(0, 1);
        x.squall(-1);
        x.squall(1);
        x.make(1, 1, false);
        x.line(1, 0, 1);
        x.told(1, 0, 1);
        x.tape(0, 0, 3);
        Checks.feed(x, "go");
        for (int again = 0; again < 2; again++) {
            due("29 two", x.undo(), 2);
            int[] ship = {0, 0, 3, 0, 7};
            for (int i = 0; i < 5; i++) due("29 ship " + i, x.ship(i), ship[i]);
            due("29 whole", x.of(0, 2), 1);
            due("29 aboard", x.of(1, 3), 1);
            due("29 squall", x.count(3), 2);
            due("29 its winds", x.made(0), 10);
            x.go(0, false, 1);
            x.squall(1);
        }
        due("29 lines stay", x.line(1, 0, 0), 1);
        due("29 rows stay", x.told(1, 0, 0), 1);
        due("29 tapes stay", x.read(0, 2), 0);
        due("29 the text stays", x.count(4), 2);
        due("29 rules stay", x.count(2), 2);
        x.make(1, 0, false);
        due("28 another", x.image(), 2);
        x.make(1, 0, true);
        due("29 the newest", x.undo(), 2);
        due("29 torn again", x.of(1, 2), 0);
        due("29 up again", x.ship(0), 0);
    }

    private static void undoOfSailsSince() {
        NineSails x = new NineSails();
        x.sail(3, 1);
        x.image();
        x.sail(4, 2);
        x.sail(5, 3);
        x.make(2, 0, false);
        x.hoist(1);
        due("29 one then", x.undo(), 1);
        due("29 three are", x.count(0), 3);
        due("29 since, not aboard", x.of(1, 3), 0);
        due("29 since, not aboard", x.of(2, 3), 0);
        due("29 since, whole", x.of(1, 2), 1);
        due("29 since, torn", x.of(2, 2), 0);
        due("29 before, aboard", x.of(0, 3), 1);
        due("29 none up", x.ship(0), -5);
        due("29 its weight", x.of(1, 0), 4);
        x.make(2, 0, true);
        x.make(2, 1, true);
        due("29 again", x.undo(), 1);
        due("29 as it is now", x.of(2, 2), 1);
        due("29 not aboard again", x.of(2, 3), 0);
        due("28 three", x.image(), 3);
        due("2 the next", x.sail(0, 1), 3);
        due("29 three", x.undo(), 3);
        due("29 ashore in the image", x.of(1, 3), 0);
    }

    private static void undoOfRaces() {
        NineSails x = new NineSails();
        x.sail(1, 1);
        x.image();
        Checks.race(x, "go 5 s=0;lose 1;wind 0 1 2");
        x.speed(0, 0, 0, 0);
        x.undo();
        due("29 no race held", x.speed(0, 0, 0, 0), 0);
        due("29 none follows", x.follows(0, 1), 0);
        due("29 races stay", x.count(1), 1);
        Checks.race(x, "go 6 s=0");
        due("9 the next number", x.count(1), 2);
        x.image();
        due("9 the third", Checks.race(x, "go 7 s=0"), 2);
        due("10 its speed", x.speed(0, 0, 0, 0), 7);
        x.undo();
        due("29 the one before holds", x.speed(0, 0, 0, 0), 6);
        due("9 the fourth", Checks.race(x, "go 8 s=0"), 3);
        due("10 its speed", x.speed(0, 0, 0, 0), 8);
        x.undo();
        due("29 the second holds", x.speed(0, 0, 0, 0), 6);
    }

    private static NineSails sevenKinds() {
        NineSails x = new NineSails();
        int[] v = {3, 2, 1, 4, 2, 1, 7};
        for (int kind = 0; kind < 7; kind++) x.rule(kind, v[kind]);
        return x;
    }

    private static void act(NineSails x, int rule, int act, int arg, int want, int... bodies) {
        String call = "30 act(" + rule + ", " + act + ", " + arg + ")";
        due(call, x.act(rule, act, arg), want);
        due(call + " bodies", x.count(5), bodies.length);
        for (int i = 0; i < bodies.length; i++) due(call + " trace " + i, x.trace(i), bodies[i]);
        due(call + " trace end", x.trace(bodies.length), -1);
    }

    private static void acts() {
        NineSails x = sevenKinds();
        act(x, 0, 0, 5, 5, 10);
        act(x, 0, 1, 5, 2, 11, 10);
        act(x, 0, 2, 5, 4, 12, 11, 10);
        act(x, 1, 0, 5, 6, 10);
        act(x, 1, 1, 5, 2, 20, 11, 10);
        act(x, 1, 2, 5, 4, 12, 20, 11, 10);
        act(x, 2, 0, 5, 17, 30, 10);
        act(x, 2, 1, 5, 16, 11, 30, 10);
        act(x, 2, 2, 5, 32, 12, 11, 30, 10);
        act(x, 3, 0, 5, -8, 50, 10);
        act(x, 3, 1, 5, -11, 51, 20, 11, 50, 10);
        act(x, 3, 2, 5, -22, 12, 51, 20, 11, 50, 10);
        act(x, 4, 0, 5, 19, 30, 10);
        act(x, 4, 1, 5, 17, 11, 30, 10);
        act(x, 4, 2, 5, 10, 60, 12, 11, 30, 10);
        act(x, 5, 0, 5, 10, 10);
        act(x, 5, 1, 5, 9, 11, 10);
        act(x, 5, 2, 5, 23, 40, 12, 11, 10, 11, 10);
        act(x, 6, 0, 5, 12, 71, 10);
        act(x, 6, 1, 5, 13, 70, 11, 71, 10, 10);
        act(x, 6, 2, 5, 27, 40, 12, 70, 11, 71, 10, 10, 70, 11, 71, 10, 10);
    }

    private static void actsWrapAndRefused() {
        NineSails x = sevenKinds();
        act(x, 2, 0, Integer.MAX_VALUE, Integer.MAX_VALUE * 3 + 2, 30, 10);
        act(x, 1, 0, Integer.MAX_VALUE, Integer.MIN_VALUE, 10);
        act(x, 0, 2, Integer.MIN_VALUE, (Integer.MIN_VALUE - 3) * 2, 12, 11, 10);
        act(x, 7, 0, 5, 0);
        act(x, 0, 0, 5, 5, 10);
        act(x, -1, 0, 5, 0);
        act(x, 0, 0, 5, 5, 10);
        act(x, 0, 3, 5, 0);
        act(x, 0, 0, 5, 5, 10);
        act(x, 0, -1, 5, 0);
        NineSails two = new NineSails();
        two.rule(5, 1);
        two.rule(5, 4);
        act(two, 1, 0, 0, 1, 10);
        act(two, 1, 1, 0, -3, 11, 10);
    }

    private static void trace() {
        NineSails x = sevenKinds();
        due("31 none yet", x.trace(0), -1);
        x.act(6, 2, 5);
        due("31 below 0", x.trace(-1), -1);
        due("31 the first", x.trace(0), 40);
        due("31 the last", x.trace(11), 10);
        due("31 beyond", x.trace(12), -1);
        due("31 far beyond", x.trace(Integer.MAX_VALUE), -1);
        x.act(0, 0, 1);
        due("31 of the latest alone", x.trace(1), -1);
        x.picks(0);
        due("31 stays", x.trace(0), 10);
    }

    private static void taken() {
        NineSails x = sevenKinds();
        int[][] is = {
            {0}, {1, 0}, {2, 0}, {3, 1, 0}, {4, 2, 0}, {5, 0}, {6, 5, 0},
        };
        for (int kind = 0; kind < 7; kind++) {
            for (int k = 0; k < 7; k++) {
                int want = -12;
                for (int i : is[kind]) if (i == k) want = kind;
                due("32 " + kind + " for " + k, x.taken(kind, k), want);
            }
        }
        due("32 k", x.taken(0, 7), -2);
        due("32 k", x.taken(0, -1), -2);
        due("32 k first", x.taken(9, 7), -2);
        due("32 rule", x.taken(7, 0), -11);
        due("32 rule", x.taken(-1, 6), -11);
    }

    private static void count() {
        NineSails x = sevenKinds();
        due("33 what", x.count(-1), -2);
        due("33 what", x.count(6), -2);
        x.sail(1, 1);
        Checks.race(x, "lose 1");
        x.squall(1);
        x.squall(1);
        x.squall(1);
        Checks.feed(x, "abcd");
        x.act(6, 1, 1);
        int[] want = {1, 1, 7, 3, 4, 5};
        for (int i = 0; i < 6; i++) due("33 " + i, x.count(i), want[i]);
    }

    private static void tape() {
        NineSails x = new NineSails();
        due("34 tape", x.tape(6, 0, 1), -1);
        due("34 tape", x.tape(-1, 0, 1), -1);
        due("34 tape first", x.tape(6, 9, 99), -1);
        due("34 sort", x.tape(0, 5, 1), -2);
        due("34 sort", x.tape(0, -2, 1), -2);
        due("34 n", x.tape(0, 0, 61), -2);
        due("34 size", x.tape(0, 0, -1), -14);
        due("34 size", x.tape(0, 4, Integer.MIN_VALUE), -14);
        due("34 sort ahead of size", x.tape(0, 5, -1), -2);
        due("34 still nothing", x.read(0, 0), NO);
        for (int sort = 0; sort < 5; sort++) {
            due("34 row", x.tape(sort, sort, 60), 1);
            due("34 its last", x.read(sort, 59), 0);
            due("34 its end", x.read(sort, 60), NO);
            x.item(sort, 3, 1);
            due("34 refused", x.tape(sort, 0, 61), -2);
            due("34 refused", x.tape(sort, 0, -1), -14);
            due("34 as it was", x.read(sort, 3), 1);
            due("34 shorter", x.tape(sort, sort, 4), 1);
            due("34 all 0", x.read(sort, 3), 0);
            due("34 its end", x.read(sort, 4), NO);
        }
        due("34 nothing, n does not matter", x.tape(0, -1, -9), 1);
        due("34 nothing there", x.item(0, 0, 1), -11);
        due("34 nothing, n does not matter", x.tape(1, -1, 99), 1);
        due("34 nothing there", x.read(1, 0), NO);
        due("34 of no items", x.tape(5, 2, 0), 1);
        due("34 is there", x.item(5, 0, 1), -13);
    }

    private static void item() {
        NineSails x = new NineSails();
        due("35 tape", x.item(6, 0, 0), -1);
        due("35 tape", x.item(-1, 0, 0), -1);
        due("35 nothing", x.item(0, 0, 0), -11);
        due("35 nothing ahead of place", x.item(0, -1, 0), -11);
        long v = 0x123456789abcdef0L;
        long[] want = {(byte) 0xf0, (short) 0xdef0, (int) 0x9abcdef0L, v, 1};
        for (int sort = 0; sort < 5; sort++) {
            x.tape(sort, sort, 3);
            due("35 place", x.item(sort, 3, 1), -13);
            due("35 place", x.item(sort, -1, 1), -13);
            due("35 place", x.item(sort, Integer.MIN_VALUE, 1), -13);
            due("35 item", x.item(sort, 2, v), 1);
            due("35 lowest bits", x.read(sort, 2), want[sort]);
            due("35 the others", x.read(sort, 1), 0);
            due("35 to 0", x.item(sort, 2, 0), 1);
            due("35 is 0", x.read(sort, 2), 0);
        }
        x.item(4, 0, 256);
        due("35 not 0", x.read(4, 0), 1);
        x.item(4, 0, Long.MIN_VALUE);
        due("35 not 0", x.read(4, 0), 1);
        x.item(0, 0, 256);
        due("35 no bits", x.read(0, 0), 0);
        x.item(0, 0, 127);
        due("35 most", x.read(0, 0), 127);
        x.item(0, 0, 128);
        due("35 wraps", x.read(0, 0), -128);
        x.item(3, 0, Long.MIN_VALUE);
        due("35 long", x.read(3, 0), Long.MIN_VALUE);
    }

    private static void read() {
        NineSails x = new NineSails();
        due("36 tape", x.read(6, 0), NO);
        due("36 tape", x.read(-1, 0), NO);
        due("36 nothing", x.read(0, 0), NO);
        x.tape(0, 0, 1);
        x.item(0, 0, -7);
        due("36 item", x.read(0, 0), -7);
        due("36 place", x.read(0, 1), NO);
        due("36 place", x.read(0, -1), NO);
        due("36 place", x.read(0, Integer.MAX_VALUE), NO);
    }

    private static void items(String call, NineSails x, int tape, int... want) {
        for (int i = 0; i < want.length; i++) due(call + " item " + i, x.read(tape, i), want[i]);
        due(call + " end", x.read(tape, want.length), NO);
    }

    private static void shift() {
        NineSails x = new NineSails();
        x.tape(0, 2, 6);
        x.tape(1, 2, 4);
        for (int i = 0; i < 6; i++) x.item(0, i, i + 1);
        due("37 to another", x.shift(0, 2, 1, 1, 3), 3);
        items("37", x, 1, 0, 3, 4, 5);
        items("37", x, 0, 1, 2, 3, 4, 5, 6);
        due("37 up in the same", x.shift(0, 0, 0, 1, 5), 5);
        items("37 up", x, 0, 1, 1, 2, 3, 4, 5);
        due("37 down in the same", x.shift(0, 2, 0, 0, 4), 4);
        items("37 down", x, 0, 2, 3, 4, 5, 4, 5);
        due("37 none at the ends", x.shift(0, 6, 1, 4, 0), 0);
        due("37 all", x.shift(1, 0, 0, 2, 4), 4);
        items("37 all", x, 0, 2, 3, 0, 3, 4, 5);
    }

    private static void shiftRefused() {
        NineSails x = new NineSails();
        due("37 tape", x.shift(6, 0, 0, 0, 0), -1);
        due("37 other", x.shift(0, 0, 6, 0, 0), -1);
        due("37 tape", x.shift(-1, 0, 0, 0, 0), -1);
        due("37 other", x.shift(0, 0, -1, 0, 0), -1);
        due("37 nothing", x.shift(0, 0, 1, 0, 0), -11);
        x.tape(0, 0, 4);
        due("37 nothing", x.shift(0, 0, 1, 0, 0), -11);
        due("37 nothing", x.shift(1, 0, 0, 0, 0), -11);
        due("37 nothing ahead of place", x.shift(1, -1, 0, 9, 9), -11);
        x.tape(1, 1, 4);
        due("37 cast", x.shift(0, 0, 1, 0, 0), -12);
        due("37 cast ahead of place", x.shift(0, -1, 1, 9, 9), -12);
        x.tape(2, 0, 3);
        due("37 n", x.shift(0, 0, 2, 0, -1), -13);
        due("37 i", x.shift(0, -1, 2, 0, 1), -13);
        due("37 j", x.shift(0, 0, 2, -1, 1), -13);
        due("37 its end", x.shift(0, 2, 2, 0, 3), -13);
        due("37 the other's end", x.shift(0, 0, 2, 0, 4), -13);
        due("37 beyond", x.shift(0, 5, 2, 0, 0), -13);
        due("37 beyond the other", x.shift(0, 0, 2, 4, 0), -13);
        due("37 far", x.shift(0, Integer.MAX_VALUE, 2, 0, Integer.MAX_VALUE), -13);
        due("37 far", x.shift(0, 1, 2, Integer.MAX_VALUE, 1), -13);
        due("37 far", x.shift(0, 0, 2, 0, Integer.MIN_VALUE), -13);
        due("37 fits", x.shift(0, 1, 2, 0, 3), 3);
    }
}
