import java.math.BigInteger;
import java.util.ArrayList;
import java.util.List;
import java.util.regex.Matcher;
import java.util.regex.Pattern;

/**
 * The document once more, written in another way and without care for speed: texts are read by a regular
 * expression, hours are told out to their last wind, rows and sets are tried one and all, acts are real overrides.
 */
final class Model {
    static final long NO = Long.MIN_VALUE;

    // ---- sails, the ship

    static final class Sail {
        int weight, hands;
        boolean whole = true, aboard = true;
        Sail(int weight, int hands) { this.weight = weight; this.hands = hands; }
        Sail copy() { Sail s = new Sail(weight, hands); s.whole = whole; s.aboard = aboard; return s; }
    }

    static final class All {
        List<Sail> sails = new ArrayList<>();
        int up = -1, wind, hour, miles, awake = 4;
        String race;
        List<Integer> squall = new ArrayList<>();
        All copy() {
            All a = new All();
            for (Sail s : sails) a.sails.add(s.copy());
            a.up = up; a.wind = wind; a.hour = hour; a.miles = miles; a.awake = awake;
            a.race = race; a.squall.addAll(squall);
            return a;
        }
        boolean may(int s) {
            if (s < 0 || s >= sails.size()) return false;
            Sail sail = sails.get(s);
            return sail.whole && sail.aboard && (up == s || sail.hands <= awake);
        }
        int speed(int s) { return speed(s, wind); }
        int speed(int s, int w) { return s < 0 ? 0 : Math.min(99, sum("go", s, w, hour)); }
        int tears(int s) { return s < 0 ? 0 : Math.min(100, sum("tear", s, wind, hour)); }
        int sum(String word, int s, int w, int h) {
            int sum = 0;
            for (String c : clauses()) {
                String[] parts = c.split(" ");
                if (parts[0].equals(word) && truth(parts[2], s, sails.get(s).weight, w, h % 24)) sum += Integer.parseInt(parts[1]);
            }
            return sum;
        }
        String[] clauses() { return race == null ? new String[0] : race.split(";"); }
        int lose() {
            int n = 0;
            for (String c : clauses()) if (c.startsWith("lose ")) n = Integer.parseInt(c.substring(5));
            return n;
        }
        int follows(int a, int b) {
            int[] odds = new int[4];
            int left = 10;
            for (int x = 0; x < 4; x++) {
                if (x == a) continue;
                int n = 0;
                for (String c : clauses()) if (c.startsWith("wind " + a + " " + x + " ")) n = Integer.parseInt(c.substring(9));
                odds[x] = Math.min(n, left);
                left -= odds[x];
            }
            odds[a] = left;
            return odds[b];
        }
    }

    /** Splits at what stands outside of brackets; | binds least. */
    static boolean truth(String e, int s, int h, int w, int t) {
        int or = outside(e, '|');
        if (or >= 0) return truth(e.substring(0, or), s, h, w, t) | truth(e.substring(or + 1), s, h, w, t);
        int and = outside(e, '&');
        if (and >= 0) return truth(e.substring(0, and), s, h, w, t) & truth(e.substring(and + 1), s, h, w, t);
        if (e.charAt(0) == '!') return !truth(e.substring(1), s, h, w, t);
        if (e.charAt(0) == '(') return truth(e.substring(1, e.length() - 1), s, h, w, t);
        int n = Integer.parseInt(e.substring(2));
        int v = e.charAt(0) == 's' ? s : e.charAt(0) == 'h' ? h : e.charAt(0) == 'w' ? w : t;
        return e.charAt(1) == '<' ? v < n : e.charAt(1) == '=' ? v == n : v > n;
    }

    static int outside(String e, char sign) {
        int depth = 0;
        for (int i = 0; i < e.length(); i++) {
            char c = e.charAt(i);
            if (c == '(') depth++;
            if (c == ')') depth--;
            if (c == sign && depth == 0) return i;
        }
        return -1;
    }

    static final Pattern RACE = racePattern();

    static Pattern racePattern() {
        String test = "[shwt][<=>][0-9][0-9]?";
        String f = test;
        for (int open = 3; open >= 0; open--) {
            String t = "(?:" + f + ")(?:&(?:" + f + "))*";
            String e = t + "(?:\\|" + t + ")*";
            f = test + "|!(?:" + f + ")|\\((?:" + e + ")\\)";
        }
        String t = "(?:" + f + ")(?:&(?:" + f + "))*";
        String e = t + "(?:\\|" + t + ")*";
        String clause = "(?:(?:go|tear) [0-9][0-9]? (?:" + e + ")|lose [0-9][0-9]?|wind [0-3] [0-3] [0-9][0-9]?)";
        return Pattern.compile(clause + "(?:;" + clause + "){0,9}");
    }

    /** -1, or the first place up to which no race begins so. */
    static int fault(String text) {
        for (int i = 1; i <= text.length(); i++) {
            Matcher m = RACE.matcher(text.substring(0, i));
            if (!m.matches() && !m.hitEnd()) return i - 1;
        }
        return RACE.matcher(text).matches() ? -1 : text.length();
    }

    // ---- rules, as kinds under one another

    static class Rule {
        final Model model; final int i, v, kind;
        int[] lines, row;
        Rule(Model model, int i, int v, int kind) { this.model = model; this.i = i; this.v = v; this.kind = kind; }
        int choose(All a) { return a.may(a.up) ? a.up : -1; }
        int picks(int x) { model.ran(10); return x + i; }
        int reefs(int x) { model.ran(11); return picks(x) - v; }
        int tells(int x) { model.ran(12); return reefs(x) * 2; }
    }
    static class Table extends Rule {
        Table(Model m, int i, int v, int kind) { super(m, i, v, kind); }
        @Override int choose(All a) { return fastest(a, a.wind); }
        @Override int reefs(int x) { model.ran(20); return super.reefs(x) ^ 6; }
    }
    static class Hold extends Rule {
        Hold(Model m, int i, int v, int kind) { super(m, i, v, kind); }
        @Override int choose(All a) {
            int fast = fastest(a, a.wind);
            return a.speed(fast) >= v + a.speed(a.up) ? fast : super.choose(a);
        }
        @Override int picks(int x) { model.ran(30); return super.picks(x * 3); }
    }
    static class Watch extends Rule {
        Watch(Model m, int i, int v, int kind) { super(m, i, v, kind); lines = new int[] {-1, -1, -1, -1}; }
        @Override int choose(All a) { return a.may(lines[a.wind]) ? lines[a.wind] : super.choose(a); }
        @Override int tells(int x) { model.ran(40); return super.tells(x) + reefs(1); }
    }
    static class Safe extends Table {
        Safe(Model m, int i, int v, int kind) { super(m, i, v, kind); }
        @Override int choose(All a) { return fastest(a, a.wind == 3 ? 3 : a.wind + 1); }
        @Override int picks(int x) { model.ran(50); return -super.picks(x); }
        @Override int reefs(int x) { model.ran(51); return super.reefs(x + 1); }
    }
    static class Best extends Hold {
        Best(Model m, int i, int v, int kind) { super(m, i, v, kind); }
        @Override int choose(All a) {
            int best = -1;
            for (int s = 0; s < a.sails.size(); s++) {
                if (!a.may(s)) continue;
                if (best < 0 || worth(a, s) > worth(a, best) || worth(a, s) == worth(a, best) && s == a.up) best = s;
            }
            return best;
        }
        int worth(All a, int s) { return a.speed(s) * v - (s == a.up ? 0 : a.lose()); }
        @Override int tells(int x) { model.ran(60); return super.tells(x - i); }
    }
    static class Told extends Watch {
        Told(Model m, int i, int v, int kind) { super(m, i, v, kind); row = new int[] {-1, -1, -1, -1, -1}; }
        @Override int choose(All a) {
            if (a.hour <= 4 && a.may(row[a.hour])) return row[a.hour];
            return super.choose(a);
        }
        @Override int reefs(int x) { model.ran(70); return super.reefs(x) + super.picks(2); }
        @Override int picks(int x) { model.ran(71); return super.picks(x) ^ v; }
    }

    static int fastest(All a, int wind) {
        int best = -1;
        for (int s = a.sails.size() - 1; s >= 0; s--) {
            if (a.may(s) && (best < 0 || a.speed(s, wind) >= a.speed(best, wind))) best = s;
        }
        return best;
    }

    // ---- hours told out to the end: chances of 1000 to the n

    static final class Way { final BigInteger chance; final int miles; Way(BigInteger c, int m) { chance = c; miles = m; } }

    static List<Way> ways(Rule rule, All from, int n) {
        List<Way> found = new ArrayList<>();
        walk(rule, from, n, BigInteger.ONE, 0, found);
        return found;
    }

    static void walk(Rule rule, All a, int n, BigInteger chance, int miles, List<Way> found) {
        if (n == 0) { found.add(new Way(chance, miles)); return; }
        int chosen = rule.choose(a);
        int sum = miles + a.speed(chosen) - (chosen >= 0 && chosen != a.up ? a.lose() : 0);
        int tears = a.tears(chosen);
        for (int tore = 0; tore < 2; tore++) {
            for (int b = 0; b < 4; b++) {
                int odds = (tore == 1 ? tears : 100 - tears) * a.follows(a.wind, b);
                if (odds == 0) continue;
                All then = a.copy();
                then.up = chosen;
                if (tore == 1) { then.sails.get(chosen).whole = false; then.up = -1; }
                then.wind = b;
                then.hour++;
                walk(rule, then, n - 1, chance.multiply(BigInteger.valueOf(odds)), sum, found);
            }
        }
    }

    static BigInteger whole(int n) { return BigInteger.valueOf(1000).pow(n); }

    static BigInteger mean(Rule rule, All a, int n) {
        BigInteger sum = BigInteger.ZERO;
        for (Way w : ways(rule, a, n)) sum = sum.add(w.chance.multiply(BigInteger.valueOf(w.miles)));
        return sum;
    }

    static long part(BigInteger above, BigInteger below, int part) {
        BigInteger g = above.gcd(below);
        return (part == 0 ? above : below).divide(g).longValueExact();
    }

    // ---- the object

    All all = new All();
    All image;
    StringBuilder text = new StringBuilder();
    List<String> races = new ArrayList<>();
    List<Rule> rules = new ArrayList<>();
    List<Integer> trace = new ArrayList<>();
    Object[] tapes = new Object[6];

    void ran(int body) { trace.add(body); }
    boolean noSail(int s) { return s < 0 || s >= all.sails.size(); }
    boolean noRule(int r) { return r < 0 || r >= rules.size(); }
    static int shown(int s) { return s < 0 ? -5 : s; }

    int sail(int weight, int hands) {
        if (weight < 0 || weight > 9) return -2;
        if (hands < 1 || hands > 9) return -2;
        if (all.sails.size() == 6) return -4;
        all.sails.add(new Sail(weight, hands));
        return all.sails.size() - 1;
    }
    int make(int s, int what, boolean is) {
        if (noSail(s)) return -1;
        if (what != 0 && what != 1) return -1;
        if (all.up == s && !is) return -3;
        Sail sail = all.sails.get(s);
        boolean was;
        if (what == 0) { was = sail.whole; sail.whole = is; } else { was = sail.aboard; sail.aboard = is; }
        return was ? 1 : 0;
    }
    int of(int s, int what) {
        if (noSail(s) || what < 0 || what > 4) return -1;
        Sail sail = all.sails.get(s);
        return what == 0 ? sail.weight : what == 1 ? sail.hands : what == 2 ? (sail.whole ? 1 : 0)
            : what == 3 ? (sail.aboard ? 1 : 0) : all.may(s) ? 1 : 0;
    }
    int set(int what, int n) {
        int was;
        switch (what) {
            case 0: if (n < 0 || n > 9) return -2; was = all.awake; all.awake = n; return was;
            case 1: if (n < 0 || n > 3) return -2; was = all.wind; all.wind = n; return was;
            case 2: if (n < 0 || n > 99) return -2; was = all.hour; all.hour = n; return was;
            default: return -1;
        }
    }
    int hoist(int s) {
        if (s != -1 && noSail(s)) return -1;
        if (s != -1 && !all.may(s)) return -3;
        int was = all.up; all.up = s; return shown(was);
    }
    int ship(int what) {
        switch (what) {
            case 0: return shown(all.up);
            case 1: return all.wind;
            case 2: return all.hour;
            case 3: return all.miles;
            case 4: return all.awake;
            default: return -1001;
        }
    }
    int feed(int bytes, int n) {
        if (n < 0 || n > 4) return -2;
        if (text.length() + n > 100) return -4;
        for (int k = n; k > 0; k--) text.append((char) ((bytes >>> (k - 1) * 8) & 0xff));
        return text.length();
    }
    int race() {
        if (races.size() == 5) return -4;
        String read = text.toString();
        text.setLength(0);
        int fault = fault(read);
        if (fault >= 0) return -10 - fault;
        races.add(read);
        all.race = read;
        return races.size() - 1;
    }
    int speed(int s, int w, int h, int what) {
        if (noSail(s) || w < 0 || w > 3 || what < 0 || what > 1) return -1;
        if (h < 0 || h > 99) return -2;
        All a = all.copy();
        a.wind = w; a.hour = h;
        return what == 0 ? a.speed(s) : a.tears(s);
    }
    int follows(int a, int b) {
        if (a < 0 || a > 3 || b < 0 || b > 3) return -1;
        return all.follows(a, b);
    }
    int rule(int kind, int v) {
        if (kind < 0 || kind > 6) return -1;
        if (v < 0 || v > 9) return -2;
        if (rules.size() == 10) return -4;
        rules.add(newRule(kind, v, rules.size()));
        return rules.size() - 1;
    }
    Rule newRule(int kind, int v, int i) {
        switch (kind) {
            case 0: return new Rule(this, i, v, 0);
            case 1: return new Table(this, i, v, 1);
            case 2: return new Hold(this, i, v, 2);
            case 3: return new Safe(this, i, v, 3);
            case 4: return new Best(this, i, v, 4);
            case 5: return new Watch(this, i, v, 5);
            default: return new Told(this, i, v, 6);
        }
    }
    int line(int r, int w, int s) {
        if (noRule(r) || w < 0 || w > 3 || s < -1 || s > 5) return -1;
        int[] lines = rules.get(r).lines;
        if (lines == null) return -3;
        int was = lines[w]; lines[w] = s; return shown(was);
    }
    int told(int r, int h, int s) {
        if (noRule(r) || h < 0 || h > 4 || s < -1 || s > 5) return -1;
        int[] row = rules.get(r).row;
        if (row == null) return -3;
        int was = row[h]; row[h] = s; return shown(was);
    }
    int picks(int r) { return noRule(r) ? -1 : shown(rules.get(r).choose(all)); }
    int go(int r, boolean tore, int w) {
        if (noRule(r) || w < 0 || w > 3) return -1001;
        if (all.hour == 99) return -1002;
        int chosen = rules.get(r).choose(all);
        int tears = all.tears(chosen);
        if (tore && (chosen < 0 || tears == 0)) return -1002;
        if (!tore && tears == 100) return -1002;
        if (all.follows(all.wind, w) == 0) return -1002;
        int made = all.speed(chosen) - (chosen >= 0 && chosen != all.up ? all.lose() : 0);
        all.up = chosen;
        if (tore) { all.up = -1; all.sails.get(chosen).whole = false; }
        all.miles += made; all.wind = w; all.hour++;
        return made;
    }
    long mean(int r, int n, int part) {
        if (noRule(r) || n < 1 || n > 4 || part < 0 || part > 1) return NO;
        return part(mean(rules.get(r), all, n), whole(n), part);
    }
    long sure(int r, int n, int m, int part) {
        if (noRule(r) || n < 1 || n > 4 || m < -400 || m > 400 || part < 0 || part > 1) return NO;
        BigInteger sum = BigInteger.ZERO;
        for (Way w : ways(rules.get(r), all, n)) if (w.miles >= m) sum = sum.add(w.chance);
        return part(sum, whole(n), part);
    }
    int edge(int n) {
        if (n < 1 || n > 4) return -2;
        int best = -1; BigInteger most = null;
        for (int v = 0; v < 10; v++) {
            BigInteger made = mean(newRule(2, v, 0), all, n);
            if (most == null || made.compareTo(most) > 0) { best = v; most = made; }
        }
        return best;
    }
    int few(int r, int k, int n) {
        if (noRule(r)) return -1;
        if (k < 0 || k > 6 || n < 1 || n > 3) return -2;
        int best = -1; BigInteger most = null;
        for (int size = 0; size <= k; size++) {
            for (int bits = 0; bits < 64; bits++) {
                if (Integer.bitCount(bits) != size) continue;
                All a = all.copy();
                boolean known = true;
                for (int s = 0; s < 6; s++) {
                    boolean in = (bits >> s & 1) == 1;
                    if (in && (s >= a.sails.size() || !a.sails.get(s).aboard)) known = false;
                    if (!in && s < a.sails.size()) a.sails.get(s).aboard = false;
                    if (!in && a.up == s) a.up = -1;
                }
                if (!known) continue;
                BigInteger made = mean(rules.get(r), a, n);
                if (most == null || made.compareTo(most) > 0) { best = bits; most = made; }
            }
        }
        return best;
    }
    long torn(int r, int s, int n, int part) {
        if (noRule(r) || noSail(s) || !all.sails.get(s).whole || n < 1 || n > 4 || part < 0 || part > 1) return NO;
        All a = all.copy();
        a.sails.get(s).whole = false;
        if (a.up == s) a.up = -1;
        return part(mean(rules.get(r), all, n).subtract(mean(rules.get(r), a, n)), whole(n), part);
    }
    long sleep(int r, int n, int part) {
        if (noRule(r) || n < 1 || n > 4 || part < 0 || part > 1) return NO;
        All a = all.copy();
        if (a.awake > 0) a.awake--;
        return part(mean(rules.get(r), all, n).subtract(mean(rules.get(r), a, n)), whole(n), part);
    }
    int lines(int n, int w) {
        if (w < 0 || w > 3) return -1;
        if (n < 1 || n > 2) return -2;
        return shown(bestRow(n)[w]);
    }
    int[] bestRow(int n) {
        int[] best = null; BigInteger most = null;
        int sails = all.sails.size();
        Rule watch = newRule(5, 0, 0);
        for (int a = -1; a < sails; a++) for (int b = -1; b < sails; b++) for (int c = -1; c < sails; c++) for (int d = -1; d < sails; d++) {
            watch.lines = new int[] {a, b, c, d};
            BigInteger made = mean(watch, all, n);
            if (most == null || made.compareTo(most) > 0) { best = watch.lines; most = made; }
        }
        return best;
    }
    int squall(int w) {
        if (w == -1) { all.squall.clear(); return 0; }
        if (w < -1 || w > 3) return -1;
        if (all.squall.size() == 6) return -4;
        all.squall.add(w);
        return all.squall.size();
    }
    int made(int r) {
        if (noRule(r)) return -1001;
        All a = all.copy();
        int sum = 0;
        for (int w : all.squall) {
            a.wind = w;
            int chosen = rules.get(r).choose(a);
            sum += a.speed(chosen);
            if (chosen >= 0 && chosen != a.up) sum -= a.lose();
            a.up = chosen;
            a.hour++;
        }
        return sum;
    }
    int worst(int r, int n) {
        if (noRule(r)) return -1001;
        if (n < 1 || n > 4) return -1002;
        int least = Integer.MAX_VALUE;
        for (Way w : ways(rules.get(r), all, n)) least = Math.min(least, w.miles);
        return least;
    }
    int judge(int t, int i) {
        if (t < 0 || t > 5) return -1;
        if (tapes[t] != null && !(tapes[t] instanceof byte[])) return -12;
        byte[] log = (byte[]) tapes[t];
        All a = all.copy();
        for (int h = 0; h < all.squall.size(); h++) {
            long at = (long) i + h;
            if (log == null || i < 0 || at >= log.length) return 100 + h;
            if (!a.may(log[(int) at])) return h;
            a.up = log[(int) at];
        }
        return -5;
    }
    int image() { image = all.copy(); return all.sails.size(); }
    int undo() {
        if (image == null) return -3;
        All back = image.copy();
        for (int s = image.sails.size(); s < all.sails.size(); s++) {
            Sail since = all.sails.get(s).copy();
            since.aboard = false;
            back.sails.add(since);
        }
        all = back;
        return image.sails.size();
    }
    int act(int r, int act, int x) {
        trace.clear();
        if (noRule(r) || act < 0 || act > 2) return 0;
        Rule rule = rules.get(r);
        return act == 0 ? rule.picks(x) : act == 1 ? rule.reefs(x) : rule.tells(x);
    }
    int trace(int i) { return i < 0 || i >= Math.min(20, trace.size()) ? -1 : trace.get(i); }
    int taken(int r, int k) {
        if (k < 0 || k > 6) return -2;
        if (noRule(r)) return -11;
        Rule rule = rules.get(r);
        boolean is = k == 0 || k == 1 && rule instanceof Table || k == 2 && rule instanceof Hold || k == 3 && rule instanceof Safe
            || k == 4 && rule instanceof Best || k == 5 && rule instanceof Watch || k == 6 && rule instanceof Told;
        return is ? rule.kind : -12;
    }
    int count(int what) {
        switch (what) {
            case 0: return all.sails.size();
            case 1: return races.size();
            case 2: return rules.size();
            case 3: return all.squall.size();
            case 4: return text.length();
            case 5: return trace.size();
            default: return -2;
        }
    }
    int tape(int t, int sort, int n) {
        if (t < 0 || t > 5) return -1;
        if (sort == -1) { tapes[t] = null; return 1; }
        if (sort < -1 || sort > 4 || n > 60) return -2;
        if (n < 0) return -14;
        tapes[t] = sort == 0 ? new byte[n] : sort == 1 ? new short[n] : sort == 2 ? new int[n] : sort == 3 ? (Object) new long[n] : new boolean[n];
        return 1;
    }
    int item(int t, int i, long v) {
        if (t < 0 || t > 5) return -1;
        Object row = tapes[t];
        if (row == null) return -11;
        if (i < 0 || i >= java.lang.reflect.Array.getLength(row)) return -13;
        if (row instanceof byte[]) ((byte[]) row)[i] = (byte) v;
        else if (row instanceof short[]) ((short[]) row)[i] = (short) v;
        else if (row instanceof int[]) ((int[]) row)[i] = (int) v;
        else if (row instanceof long[]) ((long[]) row)[i] = v;
        else ((boolean[]) row)[i] = v != 0;
        return 1;
    }
    long read(int t, int i) {
        if (t < 0 || t > 5 || tapes[t] == null) return NO;
        Object row = tapes[t];
        if (i < 0 || i >= java.lang.reflect.Array.getLength(row)) return NO;
        if (row instanceof boolean[]) return ((boolean[]) row)[i] ? 1 : 0;
        return java.lang.reflect.Array.getLong(row, i);
    }
    int shift(int t, int i, int o, int j, int n) {
        if (t < 0 || t > 5 || o < 0 || o > 5) return -1;
        if (tapes[t] == null || tapes[o] == null) return -11;
        try {
            System.arraycopy(tapes[t], i, tapes[o], j, n);
            return n;
        } catch (ArrayStoreException e) {
            return -12;
        } catch (IndexOutOfBoundsException e) {
            return -13;
        }
    }
}
