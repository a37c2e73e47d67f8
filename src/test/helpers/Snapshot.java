/** All that can be asked of an object, as one text. What is asked last changes the object: it is of no use then. */
final class Snapshot {
    private static final int WATCH = 5, TOLD = 6;

    private final NineSails x;
    private final StringBuilder told = new StringBuilder();
    private int calls;

    private Snapshot(NineSails x) { this.x = x; }

    static String of(NineSails x) {
        Snapshot s = new Snapshot(x);
        s.shipAndCounts();
        s.theTrace();
        s.sails("");
        s.rules();
        s.tapes();
        s.rowsOfRules();
        s.theImage();
        s.theText();
        if (s.calls > 400) throw new IllegalStateException(s.calls + " calls: more than an object is good for");
        return s.told.toString();
    }

    private void put(String name, long answer) {
        calls++;
        told.append(name).append('=').append(answer).append(' ');
    }

    private void shipAndCounts() {
        for (int i = 0; i < 5; i++) put("ship" + i, x.ship(i));
        for (int i = 0; i < 6; i++) put("count" + i, x.count(i));
    }

    private void theTrace() {
        int ran = x.count(5);
        for (int i = 0; i < ran; i++) put("trace" + i, x.trace(i));
    }

    private void sails(String when) {
        int sails = x.count(0);
        for (int s = 0; s < sails; s++) for (int what = 0; what < 5; what++) put(when + "of" + s + what, x.of(s, what));
        for (int s = 0; s < sails; s++) for (int wind = 0; wind < 4; wind += 3) put(when + "speed" + s + wind, x.speed(s, wind, 1, 0));
        if (sails > 0) put(when + "tears", x.speed(0, 0, 1, 1));
        for (int a = 0; a < 4; a++) for (int b = 0; b < 4; b++) put(when + "follows" + a + b, x.follows(a, b));
    }

    private void rules() {
        int rules = x.count(2);
        for (int r = 0; r < rules; r++) {
            put("kind" + r, x.taken(r, 0));
            put("v" + r, x.act(r, 1, 0));
            put("picks" + r, x.picks(r));
            put("made" + r, x.made(r));
            put("mean" + r, x.mean(r, 2, 0));
            if (r == 1) put("worst", x.worst(r, 3));
        }
    }

    /** The items, and of which sort they are: what is put on top of them comes back as that sort has it. */
    private void tapes() {
        for (int t = 0; t < 6; t++) {
            for (int i = 0; i < 5 && x.read(t, i) != NineSails.NO; i++) put("tape" + t + i, x.read(t, i));
            put("there" + t, x.item(t, 0, 0x123456789abcdef0L));
            put("sort" + t, x.read(t, 0));
            put("of 60" + t, x.item(t, 59, 1));
        }
    }

    private void rowsOfRules() {
        int rules = x.count(2);
        for (int r = 0; r < rules; r++) {
            int kind = x.taken(r, 0);
            for (int wind = 0; wind < 4 && kind >= WATCH; wind++) put("line" + r + wind, x.line(r, wind, -1));
            for (int hour = 0; hour < 5 && kind == TOLD; hour++) put("told" + r + hour, x.told(r, hour, -1));
        }
    }

    private void theText() {
        put("race", x.race());
        put("left", x.count(4));
        if (x.count(0) > 0) put("then", x.speed(0, 0, 0, 0));
    }

    private void theImage() {
        put("undo", x.undo());
        for (int i = 0; i < 5; i++) put("image ship" + i, x.ship(i));
        put("image squall", x.count(3));
        sails("image ");
        int rules = x.count(2);
        for (int r = 0; r < rules; r += 4) put("image made" + r, x.made(r));
    }
}
