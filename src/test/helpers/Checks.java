/** What the tests share: answers that are due are counted, the others told. */
final class Checks {
    private int wrong;
    private int right;

    void due(String call, long got, long want) {
        if (got == want) {
            right++;
        } else {
            wrong++;
            if (wrong <= 50) {
                System.out.println(call + " answered " + got + ", due is " + want);
            }
        }
    }

    boolean failed() {
        return wrong > 0;
    }

    /** Ends the test: exit code 1 if an answer was not as due. */
    void end() {
        System.out.println(right + " answers as due, " + wrong + " not");
        if (wrong > 0 || right == 0) {
            System.exit(1);
        }
    }

    /** Four bytes a call, as an object is good for so many calls alone. */
    static void feed(NineSails x, String text) {
        for (int from = 0; from < text.length(); from += 4) {
            int to = Math.min(from + 4, text.length());
            int bytes = 0;
            for (int i = from; i < to; i++) {
                bytes = bytes << 8 | text.charAt(i) & 255;
            }
            x.feed(bytes, to - from);
        }
    }

    /** Feeds a text and reads it: what race() answers. */
    static int race(NineSails x, String text) {
        feed(x, text);
        return x.race();
    }
}
