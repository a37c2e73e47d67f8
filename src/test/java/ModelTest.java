import java.util.ArrayList;
import java.util.List;

/** Long runs of calls, the program beside the model (helpers/Model.java): each answer must be the same. */
public final class ModelTest {
    private static long seed;
    /** Of how many numbers one goes astray: some runs are wilder than others. */
    private static int strays;

    /** A row of numbers that is the same each time. */
    private static int next(int bound) {
        seed = seed * 6364136223846793005L + 1442695040888963407L;
        return (int) ((seed >>> 33) % bound);
    }

    private static boolean oneIn(int n) { return next(n) == 0; }

    /** Mostly from 0 to below n, now and then a little or far outside. */
    private static int about(int n) {
        if (!oneIn(strays)) return next(n);
        int[] far = {-1, -2, n, n + 1, Integer.MIN_VALUE, Integer.MAX_VALUE, -5, 100, 256};
        return far[next(far.length)];
    }

    private static void test(StringBuilder b) {
        b.append("shwt".charAt(next(4))).append("<=>".charAt(next(3))).append(oneIn(4) ? next(25) : next(6));
    }

    private static void tests(StringBuilder b, int depth) {
        int parts = 1 + (oneIn(3) ? 1 : 0) + (oneIn(6) ? 1 : 0);
        for (int i = 0; i < parts; i++) {
            if (i > 0) b.append(oneIn(2) ? '|' : '&');
            int nots = oneIn(4) ? 1 + next(2) : 0;
            for (int j = 0; j < nots; j++) b.append('!');
            if (depth + nots < 4 && oneIn(4)) { b.append('('); tests(b, depth + nots + 1); b.append(')'); } else test(b);
        }
    }

    private static String clause() {
        StringBuilder b = new StringBuilder();
        switch (next(9)) {
            case 0: case 1: case 2: case 3:
                b.append("go ").append(next(oneIn(5) ? 100 : 20)).append(' '); tests(b, 0); break;
            case 4: case 5:
                b.append("tear ").append(oneIn(4) ? 99 : next(60)).append(' '); tests(b, 0); break;
            case 6:
                b.append("lose ").append(next(8)); break;
            default:
                b.append("wind ").append(next(4)).append(' ').append(next(4)).append(' ').append(oneIn(8) ? next(100) : next(9));
        }
        return b.toString();
    }

    /** A race in which there is something to choose: speeds by sails and winds, tearing, winds that change. */
    private static String likelyText() {
        List<String> parts = new ArrayList<>();
        int gos = 2 + next(3), tears = next(3), winds = 1 + next(4);
        for (int i = 0; i < gos; i++) parts.add("go " + (1 + next(oneIn(4) ? 60 : 12)) + " " + likelyTest());
        for (int i = 0; i < tears; i++) parts.add("tear " + (oneIn(5) ? 99 : 5 * (1 + next(12))) + " " + likelyTest());
        for (int i = 0; i < winds; i++) parts.add("wind " + next(4) + " " + next(4) + " " + (1 + next(8)));
        if (!oneIn(4)) parts.add("lose " + next(8));
        StringBuilder b = new StringBuilder();
        while (!parts.isEmpty()) {
            String c = parts.remove(next(parts.size()));
            if (b.length() + c.length() + 1 <= 100) b.append(b.length() > 0 ? ";" : "").append(c);
        }
        return b.toString();
    }

    private static String likelyTest() {
        switch (next(7)) {
            case 0: return "s=" + next(4);
            case 1: return "s<" + (1 + next(5));
            case 2: return "w=" + next(4);
            case 3: return "h>" + next(5) + "&w<" + (1 + next(3));
            case 4: return "!w=" + next(4);
            case 5: return "t>" + next(6);
            default: return "s=" + next(4) + "|w>" + next(3);
        }
    }

    private static String text() {
        StringBuilder b = new StringBuilder();
        if (!oneIn(3)) b.append(likelyText());
        int most = b.length() > 0 ? 0 : oneIn(4) ? 11 : 1 + next(10);
        for (int i = 0; i < most; i++) {
            String c = oneIn(most) || most < 9 ? clause() : "lose " + next(9);
            if (b.length() + c.length() + 1 > 100) break;
            if (i > 0) b.append(';');
            b.append(c);
        }
        if (b.length() == 0) b.append("lose 1");
        if (oneIn(5)) spoil(b);
        return b.length() > 100 ? b.substring(0, 100) : b.toString();
    }

    private static void spoil(StringBuilder b) {
        int at = next(b.length());
        char[] signs = ";|&!()<=>0123456789 shwtgolearind\0\377\200".toCharArray();
        switch (next(4)) {
            case 0: b.setLength(at); break;
            case 1: b.insert(at, signs[next(signs.length)]); break;
            case 2: b.setCharAt(at, signs[next(signs.length)]); break;
            default: b.deleteCharAt(at);
        }
    }

    private final Checks checks;
    private final int run;
    private final NineSails x = new NineSails();
    private final Model m = new Model();
    private int calls;
    private final List<String> told = new ArrayList<>();

    private ModelTest(Checks checks, int run) { this.checks = checks; this.run = run; }

    private void same(String call, long got, long want) {
        calls++;
        told.add(call + " = " + got);
        if (got != want) for (String t : told) System.out.println("  " + t);
        checks.due("run " + run + ", call " + calls + ": " + call, got, want);
    }

    private static String s(String name, Object... args) {
        StringBuilder b = new StringBuilder(name).append('(');
        for (int i = 0; i < args.length; i++) b.append(i > 0 ? ", " : "").append(args[i]);
        return b.append(')').toString();
    }

    private void feed(String text) {
        for (int i = 0; i < text.length(); ) {
            int n = Math.min(text.length() - i, next(4) + 1);
            int bytes = next(1 << 30);
            for (int j = 0; j < n; j++) bytes = bytes << 8 | text.charAt(i + j);
            same(s("feed", bytes, n), x.feed(bytes, n), m.feed(bytes, n));
            i += n;
        }
    }

    private void race() {
        // What is left of a text that was fed by chance would spoil the race.
        if (m.text.length() > 0 && !oneIn(8) && m.races.size() < 5) same("race()", x.race(), m.race());
        feed(text());
        same("race()", x.race(), m.race());
    }

    private void sail() {
        int w = about(10), h = oneIn(10) ? about(10) : 1 + next(oneIn(3) ? 9 : 4);
        same(s("sail", w, h), x.sail(w, h), m.sail(w, h));
    }

    private void rule() {
        int k = about(7), v = about(oneIn(2) ? 10 : 4);
        same(s("rule", k, v), x.rule(k, v), m.rule(k, v));
    }

    private int someRule() { return m.rules.isEmpty() ? about(10) : about(m.rules.size()); }
    private int someSail() { return m.all.sails.isEmpty() ? about(6) : about(m.all.sails.size()); }

    private void call() {
        int r = someRule(), a = someSail(), w = about(4), n = oneIn(10) ? about(5) : 1 + next(4), p = about(2);
        switch (next(48)) {
            case 0: sail(); break;
            case 1: case 2: {
                int what = about(2); boolean is = !oneIn(4);
                same(s("make", a, what, is), x.make(a, what, is), m.make(a, what, is)); break; }
            case 3: case 4: { int what = about(5); same(s("of", a, what), x.of(a, what), m.of(a, what)); break; }
            case 5: case 6: {
                int what = about(3), v = what == 0 ? (oneIn(3) ? about(10) : 2 + next(5)) : what == 1 ? about(4) : oneIn(2) ? about(6) : about(100);
                same(s("set", what, v), x.set(what, v), m.set(what, v)); break; }
            case 7: case 8: { int up = oneIn(8) ? -1 : a; same(s("hoist", up), x.hoist(up), m.hoist(up)); break; }
            case 9: { int what = about(5); same(s("ship", what), x.ship(what), m.ship(what)); break; }
            case 10: {
                int bytes = next(1 << 30) * 7, k = oneIn(5) ? about(5) : next(2);
                if (oneIn(3)) same(s("feed", bytes, k), x.feed(bytes, k), m.feed(bytes, k)); break; }
            case 11: if (oneIn(3)) race(); break;
            case 12: case 13: {
                int h = about(100), what = about(2);
                same(s("speed", a, w, h, what), x.speed(a, w, h, what), m.speed(a, w, h, what)); break; }
            case 14: { int b = about(4); same(s("follows", w, b), x.follows(w, b), m.follows(w, b)); break; }
            case 15: rule(); break;
            case 16: case 17: line(); break;
            case 18: case 19: told(); break;
            case 20: case 21: same(s("picks", r), x.picks(r), m.picks(r)); break;
            case 22: case 23: case 24: {
                boolean tore = oneIn(4);
                if (oneIn(2)) w = m.all.wind;
                same(s("go", r, tore, w), x.go(r, tore, w), m.go(r, tore, w)); break; }
            case 25: case 26: same(s("mean", r, n, p), x.mean(r, n, p), m.mean(r, n, p)); break;
            case 27: case 28: {
                int mid = r < 0 || r >= m.rules.size() ? 0 : m.worst(r, Math.max(1, Math.min(4, n)));
                int miles = oneIn(8) ? about(401) : oneIn(8) ? about(401) - 400 : mid + next(30) - 2;
                same(s("sure", r, n, miles, p), x.sure(r, n, miles, p), m.sure(r, n, miles, p)); break; }
            case 29: { int k = oneIn(3) ? n : 1 + next(2); same(s("edge", k), x.edge(k), m.edge(k)); break; }
            case 30: {
                int k = about(7), h = oneIn(6) ? about(4) : 1 + next(2);
                same(s("few", r, k, h), x.few(r, k, h), m.few(r, k, h)); break; }
            case 31: same(s("torn", r, a, n, p), x.torn(r, a, n, p), m.torn(r, a, n, p)); break;
            case 32: same(s("sleep", r, n, p), x.sleep(r, n, p), m.sleep(r, n, p)); break;
            case 33: {
                if (oneIn(4)) { int h = about(3); same(s("lines", h, w), x.lines(h, w), m.lines(h, w)); break; }
                int h = m.all.sails.size() > 3 && !oneIn(6) ? 1 : 1 + next(2);
                int[] row = m.bestRow(h);
                for (int b = 0; b < 4; b++) same(s("lines", h, b), x.lines(h, b), Model.shown(row[b]));
                break; }
            case 34: case 35: { int g = oneIn(6) ? -1 : w; same(s("squall", g), x.squall(g), m.squall(g)); break; }
            case 36: same(s("made", r), x.made(r), m.made(r)); break;
            case 37: same(s("worst", r, n), x.worst(r, n), m.worst(r, n)); break;
            case 38: { int t = oneIn(3) ? about(6) : next(2), i = oneIn(3) ? about(60) : next(3); same(s("judge", t, i), x.judge(t, i), m.judge(t, i)); break; }
            case 39: if (oneIn(3) && (m.all.race != null || oneIn(5))) same("image()", x.image(), m.image()); break;
            case 40: if (oneIn(2)) same("undo()", x.undo(), m.undo()); break;
            case 41: act(r); break;
            case 42: { int k = about(7); same(s("taken", r, k), x.taken(r, k), m.taken(r, k)); break; }
            case 43: { int what = about(6); same(s("count", what), x.count(what), m.count(what)); break; }
            case 44: {
                tape(about(6), oneIn(8) ? about(5) : oneIn(8) ? -1 : oneIn(2) ? 0 : next(5)); break; }
            case 45: items(); break;
            case 46: {
                int t = about(6), i = oneIn(3) ? about(60) : about(6);
                same(s("read", t, i), x.read(t, i), m.read(t, i)); break; }
            default: {
                int t = about(6), i = about(5), o = about(6), j = about(5), k = about(5);
                same(s("shift", t, i, o, j, k), x.shift(t, i, o, j, k), m.shift(t, i, o, j, k)); break; }
        }
    }

    private void act(int r) {
        int act = about(3), v = oneIn(3) ? next(1 << 30) * 5 : next(10) - 3;
        same(s("act", r, act, v), x.act(r, act, v), m.act(r, act, v));
        same("count(5)", x.count(5), m.count(5));
        for (int i = -1; i < m.trace.size() + 2; i++) same(s("trace", i), x.trace(i), m.trace(i));
    }

    private void tape(int t, int sort) {
        int k = oneIn(3) ? about(61) : next(8);
        same(s("tape", t, sort, k), x.tape(t, sort, k), m.tape(t, sort, k));
    }

    /** A rule of these kinds, if there is one. */
    private int ruleOf(int kind, int other) {
        for (int i = 0; i < 12; i++) {
            int r = someRule();
            if (r >= 0 && r < m.rules.size() && (m.rules.get(r).kind == kind || m.rules.get(r).kind == other)) return r;
        }
        return someRule();
    }

    private void line() {
        int r = oneIn(5) ? someRule() : ruleOf(5, 6), w = about(4), t = oneIn(2) ? someSail() : about(7) - 1;
        same(s("line", r, w, t), x.line(r, w, t), m.line(r, w, t));
    }

    private void told() {
        int r = oneIn(5) ? someRule() : ruleOf(6, 6), h = about(5), t = oneIn(2) ? someSail() : about(7) - 1;
        same(s("told", r, h, t), x.told(r, h, t), m.told(r, h, t));
    }

    private void items() {
        int t = about(6), from = oneIn(3) ? about(60) : next(3);
        for (int i = 0; i < 6; i++) {
            long v = oneIn(3) ? ((long) next(1 << 30) << 34) + next(1 << 30) * 9L : next(6);
            int at = Math.abs(from) < 100 ? from + i : from;
            same(s("item", t, at, v), x.item(t, at, v), m.item(t, at, v));
            same(s("read", t, at), x.read(t, at), m.read(t, at));
        }
    }

    private void play() {
        int sails = next(oneIn(2) ? 7 : 4);
        for (int i = 0; i < sails; i++) sail();
        for (int i = 0; i < 3 && m.races.isEmpty() && !oneIn(12); i++) race();
        int rules = next(11);
        for (int i = 0; i < rules; i++) rule();
        for (int i = 0; i < 6; i++) if (!oneIn(5)) tape(i, i < 2 ? 0 : next(5));
        for (int i = 0; i < 4; i++) items();
        for (int i = 0; i < 8; i++) { line(); told(); }
        while (calls < 480) call();
        for (int i = 0; i < 5; i++) same(s("ship", i), x.ship(i), m.ship(i));
        for (int i = 0; i < 6; i++) same(s("count", i), x.count(i), m.count(i));
    }

    public static void main(String[] args) {
        Checks checks = new Checks();
        int runs = args.length > 2 ? Integer.parseInt(args[2]) : 400;
        int from = args.length > 3 ? Integer.parseInt(args[3]) : 1;
        for (int run = from; run < from + runs && !checks.failed(); run++) {
            seed = run * 1000003L + 17;
            strays = 8 + 30 * (run % 3);
            for (int i = 0; i < 5; i++) next(2);
            new ModelTest(checks, run).play();
        }
        checks.end();
    }
}
