/** What the tests of boundary cases share: what is due, and objects to ask. */
abstract class Bounds {
    static final int BAD = -1, NOT = -2, FULL = -3, STATE = -5, VOID = -2000000000;
    static final int NOTHING_THERE = -11, OTHER_KIND = -12, NO_PLACE = -13, BELOW_0 = -14;
    static final int LEAST = Integer.MIN_VALUE, MOST = Integer.MAX_VALUE;

    private static final int TOLD = 40;

    private static int checks = 0;
    private static int wrong = 0;

    static int checks() {
        return checks;
    }

    static int wrong() {
        return wrong;
    }

    static void is(long got, long want) {
        ask("", got, want);
    }

    static void all(long want, long... got) {
        for (int k = 0; k < got.length; k++) {
            ask(", the " + (k + 1) + ". of these", got[k], want);
        }
    }

    private static void ask(String which, long got, long want) {
        checks++;
        if (got == want) {
            return;
        }
        wrong++;
        if (wrong <= TOLD) {
            System.out.println(place() + which + ": answered " + got + ", due is " + want);
        }
    }

    /** The line of the test that asks. */
    private static String place() {
        for (StackTraceElement element : new Throwable().getStackTrace()) {
            if (!element.getClassName().equals("Bounds")) {
                return element.getFileName() + ":" + element.getLineNumber();
            }
        }
        return "?";
    }

    /** A number of mend() from low to high, first at first; what is refused leaves it as it is. */
    static void range(TwentyPushes x, int number, int what, int first, int low, int high) {
        is(x.of(number, what), first);
        is(x.mend(number, what, low), first);
        all(BAD, x.mend(number, what, low - 1), x.mend(number, what, LEAST));
        is(x.of(number, what), low);
        is(x.mend(number, what, high), low);
        all(BAD, x.mend(number, what, high + 1), x.mend(number, what, MOST));
        is(x.mend(number, what, low), high);
        is(x.mend(number, what, high), low);
        is(x.of(number, what), high);
    }

    // ---- objects to ask

    /** So many CHILDREN of WEIGHT 4 with LEGS 1 in QUEUE 0. */
    static TwentyPushes with(int children) {
        TwentyPushes x = new TwentyPushes();
        for (int k = 0; k < children; k++) {
            x.child(41, 0);
        }
        return x;
    }

    /** By a law, with so many PUSHES, and CHILDREN of the WEIGHTS told, all in QUEUE 0, without LEGS. */
    static TwentyPushes by(String law, int pushes, int... weights) {
        TwentyPushes x = new TwentyPushes();
        enact(x, law);
        x.mend(0, 8, pushes);
        for (int weight : weights) {
            x.child(weight * 10, 0);
        }
        return x;
    }

    static void feed(TwentyPushes x, String text) {
        for (int k = 0; k < text.length(); k++) {
            x.feed(text.charAt(k));
        }
    }

    static int enact(TwentyPushes x, String text) {
        feed(x, text);
        return x.law();
    }

    /** A ROW of bytes. */
    static void lay(TwentyPushes x, int shelf, int... bytes) {
        x.row(shelf, 0, bytes.length);
        for (int k = 0; k < bytes.length; k++) {
            x.put(shelf, k, bytes[k]);
        }
    }

    static void pushes(TwentyPushes x, int n) {
        for (int k = 0; k < n; k++) {
            x.push();
        }
    }

    /** On SHELF 0 nothing, on 1 a BODY, on 2 a ROW of shorts, on 3 one of three bytes. */
    static TwentyPushes withShelves(TwentyPushes x) {
        x.body(3);
        x.keep(1, 0);
        x.row(2, 1, 3);
        x.row(3, 0, 3);
        return x;
    }
}
