import java.io.IOException;

/** "What is answered so changes nothing; what is asked changes nothing.": each refusal of each call, each asking. */
public final class RefusedTest {
    private static final Sentences DOC = new Sentences();
    private static final int LEAST = Sentences.LEAST, MOST = Sentences.MOST;
    private static final long NO = Sentences.NO;

    private interface Call { long on(NineSails x); }
    private interface State { NineSails made(); }

    private static State state;
    private static String before;

    /** From here on calls are made on objects that are made so. */
    private static void on(State made) {
        state = made;
        before = Snapshot.of(made.made());
        DOC.dueText("two that are made alike", Snapshot.of(made.made()), before);
    }

    private static void refused(String name, long want, Call call) {
        NineSails x = state.made();
        DOC.due(name, call.on(x), want);
        DOC.dueText(name + " changes nothing", Snapshot.of(x), before);
    }

    private static void asked(String name, Call call) {
        NineSails x = state.made();
        long answer = call.on(x);
        DOC.dueText(name + " changes nothing", Snapshot.of(x), before);
        NineSails y = state.made();
        call.on(y);
        DOC.due(name + " again", call.on(y), answer);
    }

    /** What one call changes another one changes back: then all is as before. */
    private static void back(String name, Call there, Call back) {
        NineSails x = state.made();
        there.on(x);
        back.on(x);
        DOC.dueText(name + " and back", Snapshot.of(x), before);
    }

    /** One of all there is, but nothing full: sail 0 is up, 1 is torn, 2 is ashore, 3 wants more hands than there are. */
    private static NineSails rich() {
        NineSails x = new NineSails();
        int[] hands = {1, 4, 2, 9};
        for (int i = 0; i < 4; i++) x.sail(2 * i, hands[i]);
        for (int kind = 0; kind < 7; kind++) x.rule(kind, 1 + kind);
        Checks.race(x, "go 3 s=0;go 1 w>1;go 1 w=3;lose 1;wind 0 1 2");
        x.hoist(0);
        x.go(0, false, 1);
        x.squall(3);
        x.image();
        Checks.race(x, "go 5 s=0;go 7 s=1;go 9 h=4;go 2 w>1;go 1 w=3;tear 30 s=0;lose 2;wind 0 1 4;wind 1 0 3");
        x.go(0, false, 0);
        x.set(0, 5);
        x.make(1, 0, false);
        x.make(2, 1, false);
        x.squall(1);
        x.squall(0);
        x.line(5, 0, 3);
        x.line(6, 1, 2);
        x.told(6, 2, 0);
        x.told(6, 4, 5);
        int[] sorts = {0, 2, -1, 3, 4, -1}, lengths = {3, 2, 0, 0, 2, 0};
        for (int t = 0; t < 6; t++) x.tape(t, sorts[t], lengths[t]);
        x.item(0, 0, 0);
        x.item(0, 1, 3);
        x.item(0, 2, -9);
        x.item(1, 1, 70000);
        x.item(4, 0, 2);
        x.act(6, 2, 5);
        Checks.feed(x, "go 8 s=0");
        return x;
    }

    /** As many of all as there may be, at HOUR 99. */
    private static NineSails full() {
        NineSails x = new NineSails();
        for (int i = 0; i < 6; i++) x.sail(9 - i, 1);
        for (int i = 0; i < 10; i++) x.rule(i % 7, i % 10);
        for (int i = 0; i < 5; i++) Checks.race(x, "go " + (i + 4) + " s=" + i + ";go 1 w>0;go 1 w>1;lose " + i);
        for (int i = 0; i < 6; i++) x.squall(i % 4);
        for (int t = 0; t < 6; t++) x.tape(t, t % 5, 60);
        for (int t = 0; t < 6; t++) x.item(t, 2, 1);
        x.image();
        x.hoist(4);
        x.set(2, 99);
        x.act(6, 2, 5);
        Checks.feed(x, "go 1 " + "s=1&".repeat(23) + "s=1");
        return x;
    }

    /** Sail 0 tears for sure and sail 1 never; wind 1 follows wind 0 for sure. */
    private static NineSails sure() {
        NineSails x = new NineSails();
        x.sail(0, 1);
        x.sail(0, 1);
        x.rule(0, 0);
        x.rule(5, 0);
        x.line(1, 0, 1);
        Checks.race(x, "go 5 s=0;go 6 s=1;tear 99 s=0;tear 1 s=0;wind 0 1 10");
        x.hoist(0);
        return x;
    }

    private static NineSails noneUp() {
        NineSails x = sure();
        x.hoist(-1);
        return x;
    }

    public static void main(String[] args) throws IOException {
        DOC.says("What is answered so changes nothing; what is asked changes nothing.");
        on(RefusedTest::rich);
        sailsRefused();
        racesRefused();
        rulesRefused();
        hoursRefused();
        hoursOfRules();
        squallsRefused();
        tapesRefused();
        shiftsRefused();
        asking();
        askingOfHours();
        thereAndBack();
        on(RefusedTest::full);
        firstNamed();
        DOC.says("What is answered so changes nothing; what is asked changes nothing.");
        fullRefused();
        asking();
        askingOfHours();
        on(RefusedTest::sure);
        refused("it tears for sure", -1002, x -> x.go(0, false, 1));
        refused("it never tears", -1002, x -> x.go(1, true, 1));
        refused("the wind never stays", -1002, x -> x.go(0, true, 0));
        refused("wind 2 never follows", -1002, x -> x.go(1, false, 2));
        refused("no image", -3, x -> x.undo());
        on(RefusedTest::noneUp);
        refused("none up tore", -1002, x -> x.go(0, true, 1));
        on(NineSails::new);
        refused("no image", -3, x -> x.undo());
        refused("no sails", -1, x -> x.hoist(0));
        refused("none is up", -1, x -> x.make(-1, 0, false));
        refused("no rules", -1001, x -> x.go(0, false, 0));
        refused("none to none", -5, x -> x.hoist(-1));
        refused("none told", 0, x -> x.squall(-1));
        refused("nothing fed", 0, x -> x.feed(-1, 0));
        refused("no text", -10, x -> x.race());
        asking();
        askingOfHours();
        whatIsEmptied();
        again();
        DOC.end(args);
    }

    private static void sailsRefused() {
        for (int n : Sentences.outside(0, 9)) refused("sail, weight " + n, -2, x -> x.sail(n, 1));
        for (int n : Sentences.outside(1, 9)) refused("sail, hands " + n, -2, x -> x.sail(0, n));
        for (int n : Sentences.outside(0, 3)) {
            refused("make of " + n + " torn", -1, x -> x.make(n, 0, false));
            refused("make of " + n + " aboard", -1, x -> x.make(n, 1, true));
            refused("of " + n, -1, x -> x.of(n, 4));
            refused("set wind " + n, -2, x -> x.set(1, n));
        }
        for (int n : Sentences.outside(0, 1)) {
            refused("make what " + n, -1, x -> x.make(3, n, false));
            refused("make the one up, what " + n, -1, x -> x.make(0, n, false));
        }
        refused("make torn what is up", -3, x -> x.make(0, 0, false));
        refused("take ashore what is up", -3, x -> x.make(0, 1, false));
        for (int n : Sentences.outside(0, 4)) {
            refused("of what " + n, -1, x -> x.of(0, n));
            refused("ship " + n, -1001, x -> x.ship(n));
        }
        for (int n : Sentences.outside(0, 2)) refused("set what " + n, -1, x -> x.set(n, 1));
        for (int n : Sentences.outside(0, 9)) refused("set hands " + n, -2, x -> x.set(0, n));
        for (int n : Sentences.outside(0, 99)) refused("set hour " + n, -2, x -> x.set(2, n));
        for (int n : Sentences.outside(-1, 3)) refused("hoist " + n, -1, x -> x.hoist(n));
        for (int n = 1; n <= 3; n++) {
            int sail = n;
            refused("hoist " + n, -3, x -> x.hoist(sail));
        }
    }

    private static void racesRefused() {
        for (int n : Sentences.outside(0, 4)) refused("feed " + n, -2, x -> x.feed(0x61616161, n));
        for (int n : Sentences.outside(0, 3)) {
            refused("speed of " + n, -1, x -> x.speed(n, 0, 0, 0));
            refused("speed in " + n, -1, x -> x.speed(0, n, 0, 0));
            refused("follows behind " + n, -1, x -> x.follows(n, 0));
            refused("follows by " + n, -1, x -> x.follows(0, n));
        }
        for (int n : Sentences.outside(0, 1)) refused("speed what " + n, -1, x -> x.speed(0, 0, 0, n));
        for (int n : Sentences.outside(0, 99)) refused("speed at " + n, -2, x -> x.speed(0, 0, n, 0));
    }

    private static void rulesRefused() {
        for (int n : Sentences.outside(0, 6)) {
            refused("rule of kind " + n, -1, x -> x.rule(n, 0));
            refused("line of " + n, -1, x -> x.line(n, 0, 0));
            refused("told of " + n, -1, x -> x.told(n, 0, 0));
            refused("picks of " + n, -1, x -> x.picks(n));
            refused("go by " + n, -1001, x -> x.go(n, false, 0));
        }
        for (int n : Sentences.outside(0, 9)) refused("rule of v " + n, -2, x -> x.rule(0, n));
        for (int n : Sentences.outside(0, 3)) {
            refused("line for " + n, -1, x -> x.line(5, n, 0));
            refused("go, wind " + n, -1001, x -> x.go(0, false, n));
        }
        for (int n : Sentences.outside(-1, 5)) {
            refused("line tells " + n, -1, x -> x.line(6, 0, n));
            refused("told tells " + n, -1, x -> x.told(6, 0, n));
        }
        for (int n : Sentences.outside(0, 4)) refused("told for " + n, -1, x -> x.told(6, n, 0));
        for (int kind = 0; kind < 6; kind++) {
            int rule = kind;
            if (kind < 5) refused("line of kind " + kind, -3, x -> x.line(rule, 0, 0));
            refused("told of kind " + kind, -3, x -> x.told(rule, 0, 0));
        }
        refused("wind 2 never follows", -1002, x -> x.go(0, false, 2));
        refused("wind 3 never follows", -1002, x -> x.go(0, true, 3));
    }

    private static void hoursRefused() {
        for (int n : Sentences.outside(0, 6)) {
            refused("mean of " + n, NO, x -> x.mean(n, 1, 0));
            refused("sure of " + n, NO, x -> x.sure(n, 1, 0, 0));
            refused("few of " + n, -1, x -> x.few(n, 1, 1));
            refused("torn of " + n, NO, x -> x.torn(n, 0, 1, 0));
            refused("sleep of " + n, NO, x -> x.sleep(n, 1, 0));
            refused("made by " + n, -1001, x -> x.made(n));
            refused("worst of " + n, -1001, x -> x.worst(n, 1));
            refused("few, k " + n, -2, x -> x.few(1, n, 1));
            refused("taken for " + n, -2, x -> x.taken(1, n));
        }
        for (int n : Sentences.outside(1, 4)) {
            refused("mean in " + n, NO, x -> x.mean(1, n, 0));
            refused("sure in " + n, NO, x -> x.sure(1, n, 0, 0));
            refused("edge in " + n, -2, x -> x.edge(n));
            refused("torn in " + n, NO, x -> x.torn(1, 0, n, 0));
            refused("sleep in " + n, NO, x -> x.sleep(1, n, 0));
            refused("worst in " + n, -1002, x -> x.worst(1, n));
        }
        for (int n : Sentences.outside(0, 1)) {
            refused("mean, part " + n, NO, x -> x.mean(1, 1, n));
            refused("sure, part " + n, NO, x -> x.sure(1, 1, 0, n));
            refused("torn, part " + n, NO, x -> x.torn(1, 0, 1, n));
            refused("sleep, part " + n, NO, x -> x.sleep(1, 1, n));
        }
    }

    private static void hoursOfRules() {
        for (int n : Sentences.outside(-400, 400)) refused("sure of " + n + " or more", NO, x -> x.sure(1, 1, n, 0));
        for (int n : Sentences.outside(1, 3)) refused("few in " + n, -2, x -> x.few(1, 1, n));
        for (int n : Sentences.outside(1, 2)) refused("lines in " + n, -2, x -> x.lines(n, 0));
        for (int n : Sentences.outside(0, 3)) refused("lines for " + n, -1, x -> x.lines(1, n));
        for (int n : Sentences.outside(0, 3)) refused("torn of sail " + n, NO, x -> x.torn(1, n, 1, 0));
        refused("torn of one that is", NO, x -> x.torn(1, 1, 1, 0));
    }

    private static void squallsRefused() {
        for (int n : Sentences.outside(-1, 3)) refused("squall " + n, -1, x -> x.squall(n));
        for (int n : Sentences.outside(0, 5)) {
            refused("judge tape " + n, -1, x -> x.judge(n, 0));
            refused("count " + n, -2, x -> x.count(n));
        }
        refused("judge ints", -12, x -> x.judge(1, 0));
        refused("judge no longs", -12, x -> x.judge(3, 0));
        refused("judge booleans", -12, x -> x.judge(4, 9));
        for (int n : Sentences.outside(0, 11)) refused("trace " + n, -1, x -> x.trace(n));
        for (int n : Sentences.outside(0, 6)) refused("taken of " + n, -11, x -> x.taken(n, 0));
        refused("taken for another", -12, x -> x.taken(3, 2));
    }

    private static void tapesRefused() {
        for (int n : Sentences.outside(0, 5)) {
            refused("tape " + n, -1, x -> x.tape(n, 0, 1));
            refused("tape " + n + " holds nothing", -1, x -> x.tape(n, -1, 1));
            refused("item of " + n, -1, x -> x.item(n, 0, 1));
            refused("read of " + n, NO, x -> x.read(n, 0));
            refused("shift from " + n, -1, x -> x.shift(n, 0, 0, 0, 1));
            refused("shift to " + n, -1, x -> x.shift(0, 0, n, 0, 1));
        }
        for (int n : Sentences.outside(-1, 4)) refused("tape of sort " + n, -2, x -> x.tape(0, n, 1));
        refused("tape of 61", -2, x -> x.tape(0, 0, 61));
        refused("tape of far too many", -2, x -> x.tape(2, 0, MOST));
        refused("tape of fewer than none", -14, x -> x.tape(0, 0, -1));
        refused("tape of far fewer than none", -14, x -> x.tape(2, 0, LEAST));
        for (int n : Sentences.outside(0, 2)) {
            refused("item " + n, -13, x -> x.item(0, n, 1));
            refused("read " + n, NO, x -> x.read(0, n));
            refused("item " + n + " of nothing", -11, x -> x.item(2, n, 1));
            refused("read " + n + " of nothing", NO, x -> x.read(2, n));
        }
        refused("item of none", -13, x -> x.item(3, 0, 1));
    }

    private static void shiftsRefused() {
        refused("shift from nothing", -11, x -> x.shift(2, 0, 0, 0, 1));
        refused("shift to nothing", -11, x -> x.shift(0, 0, 2, 0, 1));
        refused("shift of sorts", -12, x -> x.shift(0, 0, 1, 0, 1));
        refused("shift of sorts", -12, x -> x.shift(1, 0, 3, 0, 0));
        refused("shift beyond the end", -13, x -> x.shift(0, 1, 0, 0, 3));
        refused("shift beyond the other's end", -13, x -> x.shift(0, 0, 0, 1, 3));
        refused("shift of fewer than none", -13, x -> x.shift(0, 1, 0, 0, -1));
        refused("shift from below 0", -13, x -> x.shift(0, -1, 0, 0, 1));
        refused("shift to below 0", -13, x -> x.shift(0, 0, 0, -1, 1));
        refused("shift of more than there are", -13, x -> x.shift(0, 0, 0, 0, MOST));
        refused("shift of none", 0, x -> x.shift(0, 3, 0, 0, 0));
        refused("shift to itself", 3, x -> x.shift(0, 0, 0, 0, 3));
    }

    private static void fullRefused() {
        refused("a seventh sail", -4, x -> x.sail(0, 1));
        refused("an eleventh rule", -4, x -> x.rule(0, 0));
        refused("a sixth race", -4, x -> x.race());
        for (int wind = 0; wind < 4; wind++) {
            int w = wind;
            refused("a seventh wind", -4, x -> x.squall(w));
        }
        for (int n = 1; n <= 4; n++) {
            int bytes = n;
            refused("byte 101", -4, x -> x.feed(0x61616161, bytes));
        }
        refused("no byte", 100, x -> x.feed(0x61616161, 0));
        refused("hour 99", -1002, x -> x.go(0, false, 0));
        refused("no rule 10", -1001, x -> x.go(10, false, 0));
        refused("no sail 6", -1, x -> x.hoist(6));
    }

    /** Calls that are wrong in more than one way, all being full. */
    private static void firstNamed() {
        DOC.says("Answers: NONE (-1) no such number; BAD (-2) a number is not as told; STATE (-3) as told; FULL (-4); the first that a call's words name.");
        refused("sail: weight, hands, full", -2, x -> x.sail(10, 0));
        refused("sail: hands, full", -2, x -> x.sail(0, 10));
        refused("make: sail, what", -1, x -> x.make(6, 2, false));
        refused("make: what, up", -1, x -> x.make(4, 2, false));
        refused("make: up", -3, x -> x.make(4, 1, false));
        refused("set: what, n", -1, x -> x.set(3, 100));
        refused("hoist: sail", -1, x -> x.hoist(6));
        refused("feed: n, full", -2, x -> x.feed(0, 5));
        refused("feed: n, full", -2, x -> x.feed(0, -1));
        refused("speed: sail, wind, hour, what", -1, x -> x.speed(6, 4, 100, 2));
        refused("speed: wind, hour", -1, x -> x.speed(5, 4, 100, 1));
        refused("speed: hour, what", -1, x -> x.speed(5, 3, 100, 2));
        refused("speed: hour", -2, x -> x.speed(5, 3, 100, 1));
        refused("rule: kind, v, full", -1, x -> x.rule(7, 10));
        refused("rule: kind, full", -1, x -> x.rule(7, 9));
        refused("rule: v, full", -2, x -> x.rule(6, 10));
        refused("line: wind, it has none", -1, x -> x.line(0, 4, 0));
        refused("line: sail, it has none", -1, x -> x.line(4, 0, 6));
        refused("line: it has none", -3, x -> x.line(4, 3, 5));
        refused("told: hour, it has none", -1, x -> x.told(0, 5, 0));
        refused("told: sail, it has none", -1, x -> x.told(5, 0, -2));
        refused("told: it has none", -3, x -> x.told(5, 4, 5));
        refused("go: rule, wind, hour 99", -1001, x -> x.go(10, true, 4));
        refused("go: rule, hour 99", -1001, x -> x.go(-1, false, 0));
        refused("go: wind, hour 99", -1001, x -> x.go(0, false, -1));
        refused("few: rule, k, n", -1, x -> x.few(10, 7, 4));
        refused("few: k, n", -2, x -> x.few(9, 7, 4));
        refused("lines: n, wind", -1, x -> x.lines(3, 4));
        refused("lines: n", -2, x -> x.lines(3, 3));
        refused("squall: wind, full", -1, x -> x.squall(4));
        refused("worst: rule, n", -1001, x -> x.worst(10, 5));
        refused("worst: n", -1002, x -> x.worst(9, 5));
        refused("judge: tape, place", -1, x -> x.judge(6, -1));
        refused("judge: sort, place", -12, x -> x.judge(1, -1));
        refused("taken: k, rule", -2, x -> x.taken(10, 7));
        refused("taken: rule, kind", -11, x -> x.taken(10, 6));
        refused("tape: tape, sort, n", -1, x -> x.tape(6, 5, 61));
        refused("tape: sort, n above 60", -2, x -> x.tape(5, 5, 61));
        refused("tape: sort, n below 0", -2, x -> x.tape(5, -2, -1));
        refused("item: tape, place", -1, x -> x.item(6, 60, 0));
        refused("shift: tapes, places", -1, x -> x.shift(0, 61, 6, 61, -1));
        refused("shift: sorts, places", -12, x -> x.shift(0, 61, 1, 61, -1));
        refused("shift: places", -13, x -> x.shift(0, 61, 5, 61, -1));
    }

    private static void asking() {
        for (int i = 0; i < 6; i++) {
            int n = i;
            asked("of", x -> x.of(n, 4));
            asked("ship", x -> x.ship(n));
            asked("speed", x -> x.speed(n, 3, 99, 0));
            asked("tears", x -> x.speed(n, 0, 5, 1));
            asked("follows", x -> x.follows(n, 1));
            asked("count", x -> x.count(n));
            asked("trace", x -> x.trace(n));
            asked("read", x -> x.read(n, 1));
            asked("judge", x -> x.judge(n, 0));
            asked("taken", x -> x.taken(n, n));
        }
    }

    private static void askingOfHours() {
        for (int i = 0; i < 10; i++) {
            int r = i;
            asked("picks of " + r, x -> x.picks(r));
            asked("mean of " + r, x -> x.mean(r, 4, 0));
            asked("sure of " + r, x -> x.sure(r, 4, 5, 1));
            asked("few of " + r, x -> x.few(r, 2, 2));
            asked("torn of " + r, x -> x.torn(r, 0, 3, 0));
            asked("sleep of " + r, x -> x.sleep(r, 3, 0));
            asked("made by " + r, x -> x.made(r));
            asked("worst of " + r, x -> x.worst(r, 4));
        }
        for (int n = 1; n <= 4; n++) {
            int hours = n;
            asked("edge", x -> x.edge(hours));
            asked("lines", x -> x.lines(hours, hours - 1));
        }
    }

    private static void thereAndBack() {
        DOC.says("Nothing is promised beyond the answers and state changes described above");
        back("make torn", x -> x.make(3, 0, false), x -> x.make(3, 0, true));
        back("make whole", x -> x.make(1, 0, true), x -> x.make(1, 0, false));
        back("make aboard", x -> x.make(2, 1, true), x -> x.make(2, 1, false));
        back("make ashore", x -> x.make(3, 1, false), x -> x.make(3, 1, true));
        back("make what it is", x -> x.make(0, 0, true), x -> x.make(0, 1, true));
        back("set hands", x -> x.set(0, 9), x -> x.set(0, 5));
        back("set wind", x -> x.set(1, 3), x -> x.set(1, 0));
        back("set hour", x -> x.set(2, 99), x -> x.set(2, 2));
        back("hoist none", x -> x.hoist(-1), x -> x.hoist(0));
        back("line", x -> x.line(5, 0, -1), x -> x.line(5, 0, 3));
        back("line of a told one", x -> x.line(6, 3, 0), x -> x.line(6, 3, -1));
        back("told", x -> x.told(6, 4, 0), x -> x.told(6, 4, 5));
        back("squall of none", x -> x.squall(-1), x -> x.squall(3) + x.squall(1) + x.squall(0));
        back("item", x -> x.item(0, 1, 77), x -> x.item(0, 1, 3));
        back("tape", x -> x.tape(2, 3, 60), x -> x.tape(2, -1, 0));
        back("tape of another sort", x -> x.tape(1, 1, 5), x -> x.tape(1, 2, 2) + x.item(1, 1, 70000));
        back("shift", x -> x.shift(0, 0, 0, 1, 1), x -> x.item(0, 1, 3));
        back("act", x -> x.act(1, 1, 9), x -> x.act(6, 2, 5));
        back("race with a fault", x -> x.feed(';', 1) + x.race(), x -> x.feed(0x676f2038, 4) + x.feed(0x20733d30, 4));
    }

    /** A refused act and a race with a fault empty THE TRACE and THE TEXT, and change nothing else. */
    private static void whatIsEmptied() {
        DOC.says("0, and no TRACE then: no such RULE, act.");
        on(RefusedTest::rich);
        int[][] calls = {{-1, 0}, {7, 0}, {LEAST, 1}, {MOST, 2}, {0, -1}, {6, 3}, {0, MOST}, {9, 9}};
        for (int[] call : calls) {
            NineSails x = rich();
            DOC.due("no such act", x.act(call[0], call[1], 5), 0);
            DOC.due("no trace", x.count(5), 0);
            DOC.due("no trace", x.trace(0), -1);
            x.act(6, 2, 5);
            DOC.dueText("but for the trace nothing changed", Snapshot.of(x), before);
        }
        DOC.says("-10 less the FAULT (the one that held holds).");
        NineSails empty = rich();
        empty.race();
        Checks.feed(empty, "lose 1");
        NineSails same = rich();
        same.race();
        DOC.due("a fault", Checks.race(same, "go 9 s=0;go 9 s=0&lose 1"), -28);
        DOC.due("a fault", Checks.race(same, ""), -10);
        Checks.feed(same, "lose 1");
        DOC.dueText("but for the text nothing changed", Snapshot.of(same), Snapshot.of(empty));
    }

    /** What is done twice is as what is done once. */
    private static void again() {
        DOC.says("All is as THE IMAGE");
        NineSails once = rich();
        once.undo();
        NineSails twice = rich();
        twice.undo();
        twice.undo();
        DOC.dueText("undone twice", Snapshot.of(twice), Snapshot.of(once));
        DOC.says("THE IMAGE is taken: how many SAILS there are.");
        once = rich();
        once.image();
        twice = rich();
        twice.image();
        twice.undo();
        twice.image();
        DOC.dueText("an image and back", Snapshot.of(twice), Snapshot.of(once));
    }
}
