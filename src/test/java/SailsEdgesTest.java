import java.io.IOException;

/** The bounds and refusals that part 1 of the terms and promises 1 to 11 name, sentence by sentence. */
public final class SailsEdgesTest {
    private static final Sentences DOC = new Sentences();
    private static final int LEAST = Sentences.LEAST, MOST = Sentences.MOST;
    private static final String DIGITS = "0123456789", ORDERS = "<=>", LETTERS = "shwt", BEGINS = "shwt!(";

    private static void says(String quote) { DOC.says(quote); }

    private static void due(String call, long got, long want) { DOC.due(call, got, want); }

    public static void main(String[] args) throws IOException {
        sails();
        theShipAtFirst();
        handsWindsHours();
        mayBeUp();
        theText();
        clauses();
        blanksAndFigures();
        whatEndsEarly();
        nested();
        whatTestsAsk();
        hoursModulo24();
        joined();
        theFault();
        newestRace();
        speedsAndTears();
        withoutASail();
        lose();
        follows();
        aNewObject();
        sailAndMake();
        ofAndSet();
        hoistAndShip();
        feed();
        race();
        speedAndFollowsRefused();
        DOC.end(args);
    }

    // ---- terms

    private static void sails() {
        says("SAILS 0 .. 5, as they come: a WEIGHT (0 .. 9), HANDS (1 .. 9) that a change to it takes");
        for (int weight : new int[] {0, 1, 8, 9}) {
            NineSails x = new NineSails();
            due("weight " + weight, x.sail(weight, 5), 0);
            due("its weight", x.of(0, 0), weight);
        }
        for (int hands : new int[] {1, 2, 8, 9}) {
            NineSails x = new NineSails();
            due("hands " + hands, x.sail(5, hands), 0);
            due("its hands", x.of(0, 1), hands);
        }
        NineSails x = new NineSails();
        for (int weight : Sentences.outside(0, 9)) due("weight " + weight, x.sail(weight, 5), -2);
        for (int hands : Sentences.outside(1, 9)) due("hands " + hands, x.sail(5, hands), -2);
        due("none came", x.count(0), 0);
        for (int i = 0; i < 6; i++) {
            due("not there yet", x.of(i, 0), -1);
            due("the next", x.sail(9 - i, 1 + i), i);
            due("how many", x.count(0), i + 1);
        }
        due("a seventh", x.sail(0, 1), -4);
        due("no sail 6", x.of(6, 0), -1);
        for (int i = 0; i < 6; i++) due("weight of " + i, x.of(i, 0), 9 - i);
        for (int i = 0; i < 6; i++) due("hands of " + i, x.of(i, 1), 1 + i);
        says("(WHOLE and ABOARD at first)");
        for (int i = 0; i < 6; i++) due("whole at first", x.of(i, 2), 1);
        for (int i = 0; i < 6; i++) due("aboard at first", x.of(i, 3), 1);
        says("each is WHOLE or torn, ABOARD or not");
        for (int i = 0; i < 6; i++) {
            for (int bits : new int[] {0, 1, 2, 3}) {
                x.make(i, 0, (bits & 1) == 1);
                x.make(i, 1, (bits & 2) == 2);
                due("whole " + i, x.of(i, 2), bits & 1);
                due("aboard " + i, x.of(i, 3), bits >> 1);
            }
        }
    }

    private static void theShipAtFirst() {
        NineSails x = new NineSails();
        says("THE SHIP: which SAIL is up (or none, at first)");
        due("none is up", x.ship(0), -5);
        x.sail(0, 1);
        due("a sail that comes is not up", x.ship(0), -5);
        says("the WIND (0 at first)");
        due("wind", x.ship(1), 0);
        says("the HOUR (0 .. 99; 0 at first)");
        due("hour", x.ship(2), 0);
        says("MILES (0 at first; may be below 0)");
        due("miles", x.ship(3), 0);
        x.rule(1, 0);
        Checks.race(x, "lose 99");
        due("an hour below 0", x.go(0, false, 0), -99);
        due("miles below 0", x.ship(3), -99);
        x.hoist(-1);
        due("another", x.go(0, false, 0), -99);
        due("miles further below 0", x.ship(3), -198);
        says("HANDS awake (0 .. 9; 4 at first)");
        due("hands", x.ship(4), 4);
        x = new NineSails();
        x.sail(0, 4);
        x.sail(0, 5);
        due("four of four", x.of(0, 4), 1);
        due("five of four", x.of(1, 4), 0);
    }

    private static void handsWindsHours() {
        NineSails x = new NineSails();
        says("HANDS awake (0 .. 9; 4 at first)");
        int was = 4;
        for (int n : new int[] {0, 1, 8, 9}) {
            due("hands " + n, x.set(0, n), was);
            due("are awake", x.ship(4), n);
            was = n;
        }
        for (int n : Sentences.outside(0, 9)) due("hands " + n, x.set(0, n), -2);
        due("as they were", x.ship(4), 9);
        says("WINDS 0 .. 3");
        was = 0;
        for (int n = 0; n <= 3; n++) {
            due("wind " + n, x.set(1, n), was);
            due("is the wind", x.ship(1), n);
            was = n;
        }
        for (int n : Sentences.outside(0, 3)) due("wind " + n, x.set(1, n), -2);
        due("as it was", x.ship(1), 3);
        says("the HOUR (0 .. 99; 0 at first)");
        was = 0;
        for (int n : new int[] {0, 1, 98, 99}) {
            due("hour " + n, x.set(2, n), was);
            due("is the hour", x.ship(2), n);
            was = n;
        }
        for (int n : Sentences.outside(0, 99)) due("hour " + n, x.set(2, n), -2);
        due("as it was", x.ship(2), 99);
    }

    private static void mayBeUp() {
        says("A SAIL MAY be up, if it is WHOLE and ABOARD, and is up, or takes no more HANDS than are awake.");
        NineSails x = new NineSails();
        for (int hands = 1; hands <= 6; hands++) x.sail(0, hands);
        for (int awake = 0; awake <= 7; awake++) {
            x.set(0, awake);
            for (int s = 0; s < 6; s++) due(s + 1 + " hands of " + awake, x.of(s, 4), s + 1 <= awake ? 1 : 0);
        }
        x = new NineSails();
        x.sail(0, 9);
        x.set(0, 8);
        due("nine of eight", x.of(0, 4), 0);
        x.set(0, 9);
        due("nine of nine", x.of(0, 4), 1);
        x.hoist(0);
        x.set(0, 0);
        due("up, with none awake", x.of(0, 4), 1);
        x.hoist(-1);
        due("down, with none awake", x.of(0, 4), 0);
        x.set(0, 9);
        x.make(0, 0, false);
        due("torn", x.of(0, 4), 0);
        x.make(0, 1, false);
        due("torn and ashore", x.of(0, 4), 0);
        x.make(0, 0, true);
        due("ashore", x.of(0, 4), 0);
        x.make(0, 1, true);
        due("whole and aboard", x.of(0, 4), 1);
    }

    private static void theText() {
        says("A RACE is read from THE TEXT (bytes, 100 at most)");
        String longest = "go 1 " + "s=1&".repeat(23) + "s=1";
        NineSails x = new NineSails();
        Checks.feed(x, longest.substring(0, 99));
        due("99 bytes", x.count(4), 99);
        due("the hundredth", x.feed('1', 1), 100);
        due("one more", x.feed('1', 1), -4);
        due("100 bytes", x.count(4), 100);
        due("are a race", x.race(), 0);
        due("of 99 it ends too early", Checks.race(new NineSails(), longest.substring(0, 99)), -109);
        due("of 100 it may end too early", Checks.race(new NineSails(), longest.substring(0, 99) + "s"), -109);
        due("of 100 it may end too early", Checks.race(new NineSails(), "go 1 " + "s=11&".repeat(19)), -110);
        // Bytes are not signs of seven bits: 128 more is another one.
        String lose = "lose 5";
        for (int i = 0; i < lose.length(); i++) {
            String other = lose.substring(0, i) + (char) (lose.charAt(i) + 128) + lose.substring(i + 1);
            due("place " + i + " 128 more", Checks.race(new NineSails(), other), -10 - i);
        }
        due("no byte at all", new NineSails().race(), -10);
    }

    /** Reads what is there before a place and one byte more, each of the 256: those that may stand there are told. */
    private static void begins(String text, int from, String... allowed) {
        for (int place = from; place < from + allowed.length; place++) {
            for (int sign = 0; sign < 256; sign++) {
                String read = text.substring(0, place) + (char) sign;
                int answer = Checks.race(new NineSails(), read);
                if (allowed[place - from].indexOf(sign) < 0) {
                    due("'" + text.substring(0, place) + "' and " + sign, answer, -10 - place);
                } else {
                    // A race, or one that ends too early.
                    due("'" + read + "' goes on", answer == 0 || answer == -11 - place ? 1 : 0, 1);
                }
            }
        }
    }

    /** All that a text begins with ends too early, but for those of these lengths. */
    private static void endsEarly(String text, int... whole) {
        for (int length = 0; length <= text.length(); length++) {
            boolean is = false;
            for (int w : whole) is |= w == length;
            due("'" + text.substring(0, length) + "'", Checks.race(new NineSails(), text.substring(0, length)), is ? 0 : -10 - length);
        }
    }

    private static void clauses() {
        says("CLAUSES, 1 to 10, with ; between");
        String ten = "lose 0;lose 1;lose 2;lose 3;lose 4;lose 5;lose 6;lose 7;lose 8;lose 9";
        due("none", Checks.race(new NineSails(), ""), -10);
        due("none, and ;", Checks.race(new NineSails(), ";"), -10);
        due("none ahead of ;", Checks.race(new NineSails(), ";lose 1"), -10);
        due("none behind ;", Checks.race(new NineSails(), "lose 1;"), -17);
        due("none between", Checks.race(new NineSails(), "lose 1;;lose 2"), -17);
        for (int n = 1; n <= 10; n++) due(n + " clauses", Checks.race(new NineSails(), ten.substring(0, 7 * n - 1)), 0);
        due("the tenth and ;", Checks.race(new NineSails(), ten + ";"), -79);
        due("eleven", Checks.race(new NineSails(), ten + ";lose 1"), -79);
        due("a tenth of two figures and ;", Checks.race(new NineSails(), ten + "9;lose 1"), -80);
        begins(ten + "9", 62, DIGITS + ";", "gtlw", "o", "s", "e", " ", DIGITS, DIGITS, "");
        begins(ten.substring(0, 62) + "9;", 63, ";", "gtlw");
        // Each of the ten counts.
        NineSails x = new NineSails();
        x.sail(0, 1);
        due("ten", Checks.race(x, "go 1 s=0;go 2 s=0;go 3 s=0;go 4 s=0;go 5 s=0;go 6 s=0;go 7 s=0;go 8 s=0;go 9 s=0;go 10 s=0"), 0);
        due("together", x.speed(0, 0, 0, 0), 55);
        x = Sentences.raced("lose 1;lose 2;lose 3;lose 4;lose 5;lose 6;lose 7;lose 8;wind 1 3 1;wind 2 0 7");
        due("the tenth", x.follows(2, 0), 7);
        due("the ninth", x.follows(1, 3), 1);
    }

    private static void blanksAndFigures() {
        says("go n E; tear n E; lose n; wind a b n (one blank ahead of each part behind the word; n 1 or 2 digits, a, b a figure 0 .. 3)");
        String more = DIGITS + "&|;";
        begins("go 12 s=34", 0, "gtlw", "o", " ", DIGITS, DIGITS + " ", " ", BEGINS, ORDERS, DIGITS, more, "&|;");
        begins("go 1 s=3;g", 4, DIGITS + " ", BEGINS, ORDERS, DIGITS, more, "gtlw", "o");
        begins("tear 12 s=3", 0, "gtlw", "e", "a", "r", " ", DIGITS, DIGITS + " ", " ", BEGINS, ORDERS, DIGITS, more);
        begins("lose 12;w", 0, "gtlw", "o", "s", "e", " ", DIGITS, DIGITS + ";", ";", "gtlw", "i");
        begins("wind 0 3 10;l", 0, "gtlw", "i", "n", "d", " ", "0123", " ", "0123", " ", DIGITS, DIGITS + ";", ";", "gtlw", "o");
        begins("wind 3 0 9;t", 5, "0123", " ", "0123", " ", DIGITS, DIGITS + ";", "gtlw", "e");
        begins("wind 2 2 0", 6, " ", "0123", " ", DIGITS, DIGITS + ";");
        NineSails x = Sentences.raced("lose 7;wind 0 3 07;wind 3 0 0;wind 1 2 00;go 00 s=0;tear 0 s=0");
        due("two figures of 7", x.follows(0, 3), 7);
        due("none of 3", x.follows(3, 0), 0);
        due("none of 1", x.follows(1, 2), 0);
    }

    private static void whatEndsEarly() {
        says("The FAULT: the place of the first byte with which none begins so (the end of THE TEXT, if it ends too early).");
        endsEarly("go 12 s=34;lose 56", 9, 10, 17, 18);
        endsEarly("tear 12 !(h<5&t>6)|w=70;wind 0 3 10", 18, 22, 23, 34, 35);
        endsEarly("wind 3 2 1;go 1 (s=1)&((w>2|!t<3))", 10, 21, 34);
        endsEarly("lose 99;tear 9 s<1|h>2&!t=3", 6, 7, 18, 22, 27);
    }

    private static void nested() {
        says("A ( or ! within 4 others is none.");
        String after = DIGITS + "&|)";
        begins("go 1 ((((s=1))))", 5, BEGINS, BEGINS, BEGINS, BEGINS, LETTERS, ORDERS, DIGITS, after, "&|)", "&|)", "&|)", "&|;");
        begins("go 1 !!!!s=1&!s=1", 5, BEGINS, BEGINS, BEGINS, BEGINS, LETTERS, ORDERS, DIGITS, DIGITS + "&|;", BEGINS, BEGINS);
        // Behind & the second ! is over: within ( ! ( one more may stand, and none within it.
        begins("go 1 (!(!s=1&!s=1)|!!!w=2)", 5, BEGINS, BEGINS, BEGINS, BEGINS, LETTERS, ORDERS, DIGITS, after, BEGINS, LETTERS,
            ORDERS, DIGITS, after, "&|)", BEGINS, BEGINS, BEGINS, LETTERS, ORDERS, DIGITS, after, "&|;");
        begins("go 1 !(!(s=1|(", 5, BEGINS, BEGINS, BEGINS, BEGINS, LETTERS, ORDERS, DIGITS, after, LETTERS);
        begins("go 1 ((((s=1)&!", 12, after, "&|)", BEGINS, LETTERS);
        for (int n = 0; n <= 4; n++) {
            due(n + " (", Checks.race(new NineSails(), "go 1 " + "(".repeat(n) + "s=1" + ")".repeat(n)), 0);
            due(n + " !", Checks.race(new NineSails(), "go 1 " + "!".repeat(n) + "s=1"), 0);
        }
        for (int n = 5; n <= 9; n++) {
            due(n + " (", Checks.race(new NineSails(), "go 1 " + "(".repeat(n) + "s=1" + ")".repeat(n)), -19);
            due(n + " !", Checks.race(new NineSails(), "tear 1 " + "!".repeat(n) + "s=1"), -21);
        }
        due("many, but not within others", Checks.race(new NineSails(), "go 1 !s=1&(s=1)|(s=1)&!s=1&(s=1)|!(s=1)&!!s=1"), 0);
        // What stands within four is asked as well as what stands within none.
        NineSails x = new NineSails();
        for (int i = 0; i < 4; i++) x.sail(0, 1);
        Checks.race(x, "go 1 !!!!s=1;go 2 ((((s=2))));go 4 !(!(s=3));go 8 !(!!s=0);go 16 !!!s<3");
        int[] speeds = {0, 9, 10, 28};
        for (int s = 0; s < 4; s++) due("speed of " + s, x.speed(s, 0, 0, 0), speeds[s]);
    }

    private static void whatTestsAsk() {
        says("a letter, < or = or >, a number (1 or 2 digits): s the SAIL's number, h its WEIGHT, w the WIND, t the HOUR modulo 24");
        NineSails x = new NineSails();
        for (int i = 0; i < 6; i++) x.sail(9 - i, 1);
        Checks.race(x, "go 1 s<3;go 2 s=3;go 4 s>3;go 8 s<1;go 16 s>4");
        int[] bySail = {9, 1, 1, 2, 4, 20};
        for (int s = 0; s < 6; s++) due("speed of " + s, x.speed(s, 0, 0, 0), bySail[s]);
        Checks.race(x, "go 1 h<7;go 2 h=7;go 4 h>7;go 8 h=9;go 16 h<5");
        int[] byWeight = {12, 4, 2, 1, 1, 17};
        for (int s = 0; s < 6; s++) due("speed of weight " + (9 - s), x.speed(s, 0, 0, 0), byWeight[s]);
        Checks.race(x, "go 1 w<2;go 2 w=2;go 4 w>2;go 8 w<1;go 16 w>3");
        int[] byWind = {9, 1, 2, 4};
        for (int w = 0; w < 4; w++) due("speed in wind " + w, x.speed(0, w, 0, 0), byWind[w]);
        Checks.race(x, "go 1 t<12;go 2 t=12;go 4 t>12;go 8 t<1;go 16 t>22;go 32 t=99");
        int[] hours = {0, 1, 11, 12, 13, 22, 23};
        int[] byHour = {9, 1, 1, 2, 4, 4, 20};
        for (int i = 0; i < 7; i++) due("speed at " + hours[i], x.speed(0, 0, hours[i], 0), byHour[i]);
        x = new NineSails();
        x.sail(0, 1);
        Checks.race(x, "go 1 s<0;go 2 s=0;go 4 s>0;go 8 s=00;go 16 s<01;go 32 h<10;go 3 h=10;go 5 h<99");
        due("one figure or two", x.speed(0, 0, 0, 0), 2 + 8 + 16 + 32 + 5);
    }

    private static void hoursModulo24() {
        says("t the HOUR modulo 24");
        NineSails x = new NineSails();
        x.sail(0, 1);
        Checks.race(x, "go 1 t=0;go 2 t=23;go 4 t=3;go 8 t>23;go 16 t=4;tear 5 t=23;tear 7 t=0");
        int[] hours = {0, 3, 22, 23, 24, 25, 27, 28, 47, 48, 71, 72, 95, 96, 98, 99};
        int[] speed = {1, 4, 0, 2, 1, 0, 4, 16, 2, 1, 2, 1, 2, 1, 0, 4};
        int[] tears = {7, 0, 0, 5, 7, 0, 0, 0, 5, 7, 5, 7, 5, 7, 0, 0};
        for (int i = 0; i < hours.length; i++) {
            due("speed at " + hours[i], x.speed(0, 0, hours[i], 0), speed[i]);
            due("tears at " + hours[i], x.speed(0, 0, hours[i], 1), tears[i]);
        }
    }

    private static void joined() {
        says("E: T or T|E. T: F or F&T. F: !F, (E), or a TEST");
        due("no part ahead of |", Checks.race(new NineSails(), "go 1 |s=1"), -15);
        due("no part behind |", Checks.race(new NineSails(), "go 1 s=1|"), -19);
        due("no part between | and |", Checks.race(new NineSails(), "go 1 s=1||s=2"), -19);
        due("no part ahead of &", Checks.race(new NineSails(), "go 1 &s=1"), -15);
        due("no part between & and |", Checks.race(new NineSails(), "go 1 s=1&|s=2"), -19);
        due("no part between | and &", Checks.race(new NineSails(), "go 1 s=1|&s=2"), -19);
        due("nothing in ( )", Checks.race(new NineSails(), "go 1 ()"), -16);
        due("nothing behind !", Checks.race(new NineSails(), "go 1 !;lose 1"), -16);
        due("( that stays open", Checks.race(new NineSails(), "go 1 (s=1;lose 1"), -19);
        due(") that was not open", Checks.race(new NineSails(), "go 1 s=1);lose 1"), -18);
        due("nothing between ) and (", Checks.race(new NineSails(), "go 1 (s=1)(s=2)"), -20);
        due("nothing between parts", Checks.race(new NineSails(), "go 1 s=1s=2"), -18);
        due("no blank within", Checks.race(new NineSails(), "go 1 s=1 &s=2"), -18);
        due("no <=", Checks.race(new NineSails(), "go 1 s<=1"), -17);
        due("no capital", Checks.race(new NineSails(), "go 1 S=1"), -15);
        NineSails x = new NineSails();
        x.sail(3, 1);
        x.sail(4, 1);
        Checks.race(x, "go 1 s=0|h=4&w=1;go 2 (s=0|h=4)&w=1;go 4 !s=0&w=1;go 8 !(s=0&w=1);go 16 s=1&w=1|t=2&w=2");
        due("s 0, w 0, t 0", x.speed(0, 0, 0, 0), 1 + 8);
        due("s 0, w 1, t 0", x.speed(0, 1, 0, 0), 1 + 2);
        due("s 1, w 0, t 0", x.speed(1, 0, 0, 0), 8);
        due("s 1, w 1, t 0", x.speed(1, 1, 0, 0), 1 + 2 + 4 + 8 + 16);
        due("s 1, w 2, t 2", x.speed(1, 2, 2, 0), 8 + 16);
        due("s 0, w 2, t 1", x.speed(0, 2, 1, 0), 1 + 8);
        Checks.race(x, "go 1 w=1&(s=1);go 2 w=1&(s=0|s=1)&(t=0);go 4 s=1|(w=1)|(t=5);go 8 (((s=1)&w=1)|t=5)&!(h=4)");
        due("s 1, w 1, t 0", x.speed(1, 1, 0, 0), 1 + 2 + 4);
        due("s 0, w 1, t 0", x.speed(0, 1, 0, 0), 2 + 4);
        due("s 1, w 0, t 0", x.speed(1, 0, 0, 0), 4);
        due("s 0, w 0, t 0", x.speed(0, 0, 0, 0), 0);
        due("s 0, w 0, t 5", x.speed(0, 0, 5, 0), 4 + 8);
        due("s 1, w 1, t 5", x.speed(1, 1, 5, 0), 1 + 4);
    }

    private static void theFault() {
        says("The FAULT: the place of the first byte with which none begins so (the end of THE TEXT, if it ends too early).");
        due("the first of several", Checks.race(new NineSails(), "lose x;lose y"), -15);
        due("at the beginning", Checks.race(new NineSails(), "x"), -10);
        due("at the last byte", Checks.race(new NineSails(), "lose 1;lose 22x"), -24);
        due("at its end", Checks.race(new NineSails(), "lose 1;lose "), -22);
        due("at its end, nothing there", Checks.race(new NineSails(), ""), -10);
        due("in the last clause", Checks.race(new NineSails(), "go 1 s=1;tear 2 s=2;wind 0 1 2;wind 0 4 2"), -48);
        due("place 99", Checks.race(new NineSails(), "go 1 " + "s=1|".repeat(23) + "s=x"), -109);
    }

    private static void newestRace() {
        says("The newest RACE holds (5 at most); without one there are no CLAUSES.");
        NineSails x = new NineSails();
        x.sail(0, 1);
        x.rule(1, 0);
        due("without one, speed", x.speed(0, 0, 0, 0), 0);
        due("without one, tears", x.speed(0, 0, 0, 1), 0);
        for (int a = 0; a < 4; a++) for (int b = 0; b < 4; b++) due("without one, follows", x.follows(a, b), a == b ? 10 : 0);
        due("without one, nothing lost", x.mean(0, 1, 0), 0);
        for (int i = 0; i < 5; i++) {
            due("race " + i, Checks.race(x, "go " + (i + 3) + " s=0"), i);
            due("the newest holds", x.speed(0, 0, 0, 0), i + 3);
        }
        due("a sixth", Checks.race(x, "go 90 s=0"), -4);
        due("five", x.count(1), 5);
        due("the fifth holds", x.speed(0, 0, 0, 0), 7);
    }

    private static int pace(int what, String text) {
        NineSails x = Sentences.raced(text);
        x.sail(0, 1);
        return x.speed(0, 0, 0, what);
    }

    private static void speedsAndTears() {
        says("SPEED of a SAIL in a WIND at an HOUR: the n of all go whose E holds, together (99 at most)");
        due("none", pace(0, "go 9 s>0;tear 5 s=0;lose 3;wind 0 1 2"), 0);
        due("0", pace(0, "go 0 s=0"), 0);
        due("98", pace(0, "go 90 s=0;go 8 s=0"), 98);
        due("99", pace(0, "go 99 s=0"), 99);
        due("99 together", pace(0, "go 90 s=0;go 9 s=0;go 9 s=1"), 99);
        due("100", pace(0, "go 99 s=0;go 1 s=0"), 99);
        due("990", pace(0, "go 99 s=0;".repeat(9) + "go 99 s=0"), 99);
        says("TEARS: likewise by tear, of a hundred (100 at most).");
        due("none", pace(1, "tear 9 s>0;go 5 s=0;lose 3;wind 0 1 2"), 0);
        due("98", pace(1, "tear 90 s=0;tear 8 s=0"), 98);
        due("99", pace(1, "tear 99 s=0"), 99);
        due("100", pace(1, "tear 99 s=0;tear 1 s=0"), 100);
        due("101", pace(1, "tear 99 s=0;tear 2 s=0"), 100);
        due("800 and more", pace(1, "tear 99 s=0;".repeat(7) + "tear 99 s=0"), 100);
    }

    private static void withoutASail() {
        says("without a SAIL 0.");
        NineSails x = Sentences.raced("go 9 s<9;tear 99 s<9;tear 1 s=0");
        x.sail(0, 1);
        x.rule(0, 0);
        x.rule(2, 9);
        x.rule(2, 8);
        due("nine above none", x.picks(1), 0);
        due("no miles with none up", x.go(0, false, 0), 0);
        due("none up does not tear", x.go(0, true, 0), -1002);
        x.make(0, 0, false);
        due("no sail may be up: no speed", x.go(1, false, 0), 0);
        due("nor in the mean", x.mean(1, 4, 0), 0);
        due("nor at the worst", x.worst(2, 4), 0);
    }

    private static int lost(String text) {
        NineSails x = Sentences.raced(text);
        x.sail(0, 1);
        x.rule(1, 0);
        return -x.go(0, false, 0);
    }

    private static void lose() {
        says("lose: the last one's n (0 without).");
        due("without", lost("go 0 s=0"), 0);
        due("one", lost("lose 7"), 7);
        due("the last of two", lost("lose 7;lose 2"), 2);
        due("the last of three, of 0", lost("lose 7;lose 2;lose 0"), 0);
        due("the last with others behind", lost("lose 7;lose 99;tear 3 s=0;wind 0 1 5"), 99);
        due("the tenth", lost("lose 0;lose 1;lose 2;lose 3;lose 4;lose 5;lose 6;lose 7;lose 8;lose 19"), 19);
    }

    private static void odds(String text, int a, int... want) {
        NineSails x = Sentences.raced(text);
        for (int b = 0; b < 4; b++) due(text + ": " + b + " behind " + a, x.follows(a, b), want[b]);
    }

    private static void follows() {
        says("FOLLOWS: of ten, how often WIND b follows a: for b other than a, by numbers, the n of the last such wind a b n (0 without), but no more than is left of ten; a itself what is left.");
        odds("lose 1", 0, 10, 0, 0, 0);
        odds("lose 1", 3, 0, 0, 0, 10);
        odds("wind 0 1 9", 0, 1, 9, 0, 0);
        odds("wind 0 1 10", 0, 0, 10, 0, 0);
        odds("wind 0 1 11", 0, 0, 10, 0, 0);
        odds("wind 0 1 99", 0, 0, 10, 0, 0);
        odds("wind 0 3 4;wind 0 2 4;wind 0 1 1", 0, 1, 1, 4, 4);
        odds("wind 0 3 4;wind 0 2 4;wind 0 1 2", 0, 0, 2, 4, 4);
        odds("wind 0 3 4;wind 0 2 4;wind 0 1 3", 0, 0, 3, 4, 3);
        odds("wind 0 3 4;wind 0 2 4;wind 0 1 6", 0, 0, 6, 4, 0);
        odds("wind 0 3 4;wind 0 2 4;wind 0 1 7", 0, 0, 7, 3, 0);
        odds("wind 2 3 5;wind 2 1 5;wind 2 0 5", 2, 5, 5, 0, 0);
        odds("wind 3 2 5;wind 3 1 5;wind 3 0 1", 3, 1, 5, 4, 0);
        // What a itself is told matters nothing, and of two the last counts, be it 0.
        odds("wind 1 1 0;wind 1 2 3", 1, 0, 7, 3, 0);
        odds("wind 1 1 99;wind 1 2 3", 1, 0, 7, 3, 0);
        odds("wind 1 2 8;wind 1 2 3;wind 1 0 2", 1, 2, 5, 3, 0);
        odds("wind 1 2 8;wind 1 0 2;wind 1 2 0", 1, 2, 8, 0, 0);
        odds("wind 1 2 8;wind 2 1 4", 1, 0, 2, 8, 0);
        odds("wind 1 2 8;wind 2 1 4", 2, 0, 4, 6, 0);
    }

    // ---- promises 1 to 11

    private static void aNewObject() {
        says("No SAILS, no RACE.");
        NineSails x = new NineSails();
        due("no sails", x.count(0), 0);
        due("no races", x.count(1), 0);
        due("no sail 0", x.of(0, 0), -1);
        due("none to hoist", x.hoist(0), -1);
        due("the first sail is 0", x.sail(0, 1), 0);
        due("the first race is 0", Checks.race(x, "lose 1"), 0);
    }

    private static void sailAndMake() {
        says("A SAIL: its number. BAD: weight, hands; FULL: 6.");
        NineSails x = new NineSails();
        for (int i = 0; i < 5; i++) x.sail(0, 1);
        due("the sixth", x.sail(0, 1), 5);
        due("full", x.sail(0, 1), -4);
        due("weight ahead of full", x.sail(10, 1), -2);
        due("hands ahead of full", x.sail(0, 0), -2);
        due("both", x.sail(-1, 10), -2);
        says("A SAIL becomes (what 0) WHOLE, or torn (1: is, 0: not), (1) ABOARD or not: 1 if it was, 0. NONE: sail, what; STATE: it is up, and would be torn, or not be ABOARD.");
        for (int what = 0; what < 2; what++) {
            due("was", x.make(5, what, true), 1);
            due("was, and is not", x.make(5, what, false), 1);
            due("was not", x.make(5, what, false), 0);
            due("was not, and is", x.make(5, what, true), 0);
            due("was", x.make(5, what, true), 1);
        }
        x.hoist(0);
        for (int sail : Sentences.outside(0, 5)) due("sail " + sail, x.make(sail, 0, true), -1);
        for (int what : Sentences.outside(0, 1)) due("what " + what, x.make(5, what, true), -1);
        for (int what : Sentences.outside(0, 1)) due("what " + what + " ahead of up", x.make(0, what, false), -1);
        for (int what = 0; what < 2; what++) {
            due("it is up and would not be", x.make(0, what, false), -3);
            due("it is up and is", x.make(0, what, true), 1);
            due("another is not up", x.make(1, what, false), 1);
        }
        x.hoist(-1);
        due("it was up", x.make(0, 0, false), 1);
        x = new NineSails();
        due("of no sails none", x.make(0, 0, true), -1);
        due("none is up, and -1 is none", x.make(-1, 0, false), -1);
    }

    private static void ofAndSet() {
        says("Of a SAIL what 0 WEIGHT, 1 HANDS, 2 whether WHOLE, 3 ABOARD, 4 whether it MAY be up. NONE.");
        NineSails x = new NineSails();
        x.sail(3, 5);
        int[] want = {3, 5, 1, 1, 0};
        for (int what = 0; what < 5; what++) due("what " + what, x.of(0, what), want[what]);
        for (int what : Sentences.outside(0, 4)) due("what " + what, x.of(0, what), -1);
        for (int sail : Sentences.outside(0, 0)) for (int what = 0; what < 5; what++) due("sail " + sail, x.of(sail, what), -1);
        for (int i = 1; i < 6; i++) x.sail(0, 1);
        for (int sail : Sentences.outside(0, 5)) for (int what = 0; what < 5; what++) due("sail " + sail, x.of(sail, what), -1);
        says("What 0 HANDS awake (0 .. 9), 1 the WIND (0 .. 3), 2 the HOUR (0 .. 99) becomes n: what it was. NONE; BAD.");
        for (int what : Sentences.outside(0, 2)) {
            due("what " + what, x.set(what, 0), -1);
            due("what " + what + " ahead of n", x.set(what, -1), -1);
            due("what " + what + " ahead of n", x.set(what, 100), -1);
        }
        int[] most = {9, 3, 99};
        int[] first = {4, 0, 0};
        for (int what = 0; what < 3; what++) {
            due("most", x.set(what, most[what]), first[what]);
            due("one more", x.set(what, most[what] + 1), -2);
            due("least", x.set(what, 0), most[what]);
            due("one less", x.set(what, -1), -2);
            due("was", x.set(what, 0), 0);
        }
    }

    private static void hoistAndShip() {
        says("A SAIL is up (-1: none): which was (-5: none). NONE; STATE: it MAY not.");
        NineSails x = new NineSails();
        due("none for none", x.hoist(-1), -5);
        due("no sails", x.hoist(0), -1);
        for (int i = 0; i < 6; i++) x.sail(0, 4);
        for (int sail : Sentences.outside(-1, 5)) due("sail " + sail, x.hoist(sail), -1);
        due("the first", x.hoist(0), -5);
        due("the last", x.hoist(5), 0);
        due("itself", x.hoist(5), 5);
        x.set(0, 3);
        due("itself, with too few hands", x.hoist(5), 5);
        due("another, with too few hands", x.hoist(0), -3);
        due("none, with too few hands", x.hoist(-1), 5);
        due("none again", x.hoist(-1), -5);
        due("which was up, with too few hands", x.hoist(5), -3);
        x.set(0, 4);
        due("with as many hands", x.hoist(5), -5);
        x.make(1, 0, false);
        x.make(2, 1, false);
        due("torn", x.hoist(1), -3);
        due("ashore", x.hoist(2), -3);
        due("the one up", x.ship(0), 5);
        says("Of THE SHIP what 0 the SAIL up (-5: none), 1 the WIND, 2 the HOUR, 3 MILES, 4 HANDS awake. -1001: NONE.");
        for (int what : Sentences.outside(0, 4)) due("what " + what, x.ship(what), -1001);
        x.set(1, 3);
        x.set(2, 99);
        int[] want = {5, 3, 99, 0, 4};
        for (int what = 0; what < 5; what++) due("what " + what, x.ship(what), want[what]);
        x.hoist(0);
        due("sail 0", x.ship(0), 0);
        x.hoist(-1);
        due("none", x.ship(0), -5);
    }

    private static void feed() {
        says("The n lowest bytes of a number, the highest first (n 0 .. 4), come behind THE TEXT's: how many it has. BAD; FULL.");
        for (int n : Sentences.outside(0, 4)) due("n " + n, new NineSails().feed(0, n), -2);
        // The four bytes are "lose"; of them three, two and one are left as well.
        int lose = 0x6c6f7365;
        for (int n = 0; n <= 4; n++) {
            NineSails x = new NineSails();
            Checks.feed(x, "lose".substring(0, 4 - n));
            due(n + " bytes", x.feed(lose, n), 4);
            Checks.feed(x, " 1");
            due("as one", x.race(), 0);
        }
        due("the lowest alone", new NineSails().feed(-1, 1), 1);
        for (int had = 95; had <= 100; had++) {
            for (int n = 0; n <= 4; n++) {
                NineSails x = new NineSails();
                Checks.feed(x, "s".repeat(had));
                due(n + " behind " + had, x.feed(lose, n), had + n > 100 ? -4 : had + n);
                due("how many", x.count(4), had + n > 100 ? had : had + n);
                due("n ahead of full", x.feed(lose, 5), -2);
                due("n ahead of full", x.feed(lose, -1), -2);
            }
        }
        due("none", new NineSails().feed(lose, 0), 0);
    }

    private static void race() {
        says("THE TEXT, which is empty then, is a RACE, and holds: its number. FULL: there are 5 (THE TEXT stays); -10 less the FAULT (the one that held holds).");
        NineSails x = new NineSails();
        x.sail(0, 1);
        for (int i = 0; i < 5; i++) {
            due("a fault", Checks.race(x, "go 90 s=0;x"), -20);
            due("is empty", x.count(4), 0);
            due("the one that held holds", x.speed(0, 0, 0, 0), i == 0 ? 0 : i);
            due("how many", x.count(1), i);
            due("an empty one is a fault", x.race(), -10);
            due("a race", Checks.race(x, "go " + (i + 1) + " s=0"), i);
            due("is empty", x.count(4), 0);
        }
        NineSails y = new NineSails();
        y.sail(0, 1);
        for (int i = 0; i < 12; i++) due("a long one with a fault", Checks.race(y, "go 1 " + "s=1|".repeat(23) + "s=x"), -109);
        due("nothing of them is left", Checks.race(y, "go 7 s=0&s<1&s<2&s<3;lose 3;wind 0 1 4"), 0);
        due("its speed", y.speed(0, 0, 0, 0), 7);
        due("its winds", y.follows(0, 1), 4);
        due("full, the text being empty", x.race(), -4);
        Checks.feed(x, "go 9 s=0");
        due("full", x.race(), -4);
        due("it stays", x.count(4), 8);
        Checks.feed(x, ";x");
        due("full ahead of a fault", x.race(), -4);
        due("it stays", x.count(4), 10);
        due("the one that held holds", x.speed(0, 0, 0, 0), 5);
    }

    private static void speedAndFollowsRefused() {
        says("SPEED (what 0), TEARS (1) of a SAIL in a WIND at an HOUR (0 .. 99). NONE: sail, wind, what; BAD.");
        NineSails x = new NineSails();
        due("no sails", x.speed(0, 0, 0, 0), -1);
        for (int i = 0; i < 6; i++) x.sail(i, 1);
        Checks.race(x, "go 5 s=0;go 7 s=5;tear 3 s=0;tear 4 s=5");
        due("the first, speed", x.speed(0, 0, 0, 0), 5);
        due("the last, speed", x.speed(5, 3, 99, 0), 7);
        due("the first, tears", x.speed(0, 3, 99, 1), 3);
        due("the last, tears", x.speed(5, 0, 0, 1), 4);
        for (int hour : new int[] {0, LEAST, -1, 100, MOST}) {
            for (int sail : Sentences.outside(0, 5)) due("sail " + sail + " at " + hour, x.speed(sail, 0, hour, 0), -1);
            for (int wind : Sentences.outside(0, 3)) due("wind " + wind + " at " + hour, x.speed(0, wind, hour, 0), -1);
            for (int what : Sentences.outside(0, 1)) due("what " + what + " at " + hour, x.speed(0, 0, hour, what), -1);
        }
        for (int hour : Sentences.outside(0, 99)) {
            due("hour " + hour, x.speed(0, 0, hour, 0), -2);
            due("hour " + hour, x.speed(5, 3, hour, 1), -2);
        }
        says("FOLLOWS: how often of ten b follows a. NONE.");
        Checks.race(x, "wind 0 3 4;wind 3 0 6");
        due("3 behind 0", x.follows(0, 3), 4);
        due("0 behind 3", x.follows(3, 0), 6);
        due("0 behind 0", x.follows(0, 0), 6);
        due("3 behind 3", x.follows(3, 3), 4);
        for (int wind : Sentences.outside(0, 3)) {
            due("a " + wind, x.follows(wind, 0), -1);
            due("b " + wind, x.follows(0, wind), -1);
            due("a, b " + wind, x.follows(wind, wind), -1);
        }
    }
}
