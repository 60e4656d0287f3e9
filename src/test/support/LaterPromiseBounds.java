/** Promises 20 to 40: each call's own line, with what it refuses by each of its numbers. */
final class LaterPromiseBounds extends Bounds {
    private static final int[] NO_SHELVES = {-1, 6, LEAST, MOST};

    /** CHILDREN 0 to 2, of one second a ROUND, PUSHES 3; SHELVES as withShelves(), and three squeals on SHELF 3. */
    private static TwentyPushes heard() {
        TwentyPushes x = withShelves(by("1", 3, 4, 4, 4));
        lay(x, 3, 1, 1, 1);
        return x;
    }

    @Sentence(in = "Promise 20", says = "JUDGED. BAD, -11, -12 (no ROW of bytes); NOT.")
    static void judge() {
        TwentyPushes x = heard();
        all(NOT, x.judge(3, 9, 0), x.judge(3, 212, 8));
        all(BAD, x.judge(3, 0, 0), x.judge(3, 3, 0), x.judge(3, 39, 0), x.judge(3, 309, 0), x.judge(3, -1, 0));
        all(BAD, x.judge(3, 9, -1), x.judge(3, 9, 9), x.judge(3, 9, LEAST), x.judge(3, 9, MOST));
        for (int shelf : NO_SHELVES) {
            is(x.judge(shelf, 9, 0), BAD);
        }
        is(x.judge(0, 9, 0), NOTHING_THERE);
        is(x.judge(1, 9, 0), OTHER_KIND);
        for (int sort = 1; sort <= 4; sort++) {
            x.row(2, sort, 3);
            is(x.judge(2, 9, 0), OTHER_KIND);
        }
    }

    @Sentence(in = "Promise 21", says = "WHO (sw: 10 times the SWING, and who counts, 9: as it is; that one itself cannot be): bits. BAD, -11, -12.")
    static void who() {
        TwentyPushes x = heard();
        all(1 + 2 + 4, x.who(3, 9, 0), x.who(3, 19, 0), x.who(3, 29, 8));
        is(x.who(3, 0, 0), 2 + 4);
        is(x.who(3, 21, 0), 1 + 4);
        is(x.who(3, 12, 0), 1 + 2);
        all(BAD, x.who(3, 3, 0), x.who(3, 8, 0), x.who(3, 13, 0));
        all(BAD, x.who(3, 39, 0), x.who(3, 30, 0), x.who(3, 100, 0), x.who(3, -1, 0), x.who(3, -10, 0), x.who(3, LEAST, 0), x.who(3, MOST, 0));
        all(BAD, x.who(3, 9, -1), x.who(3, 9, 9), x.who(3, 9, LEAST), x.who(3, 9, MOST));
        for (int shelf : NO_SHELVES) {
            is(x.who(shelf, 9, 0), BAD);
        }
        is(x.who(0, 9, 0), NOTHING_THERE);
        is(x.who(1, 9, 0), OTHER_KIND);
        for (int sort = 1; sort <= 4; sort++) {
            x.row(2, sort, 3);
            is(x.who(2, 9, 0), OTHER_KIND);
        }
        TwentyPushes y = new TwentyPushes();
        y.row(0, 0, 1);
        is(y.who(0, 9, 0), 0);
        is(y.who(0, 0, 0), BAD);
    }

    @Sentence(in = "Promise 22", says = "SURE COUNT (sc: who counts there does not matter, but must be one): bits. BAD, -11, -12.")
    static void sure() {
        TwentyPushes x = heard();
        all(512 + 2 + 4, x.sure(3, 9, 0), x.sure(3, 1, 0), x.sure(3, 2, 0), x.sure(3, 202, 8));
        is(x.sure(3, 10, 0), 512 + 1 + 4);
        all(BAD, x.sure(3, 0, 0), x.sure(3, 3, 0), x.sure(3, 8, 0), x.sure(3, 39, 0), x.sure(3, 309, 0), x.sure(3, -1, 0));
        all(BAD, x.sure(3, 9, -1), x.sure(3, 9, 9), x.sure(3, 9, LEAST), x.sure(3, 9, MOST));
        for (int shelf : NO_SHELVES) {
            is(x.sure(shelf, 9, 0), BAD);
        }
        is(x.sure(0, 9, 0), NOTHING_THERE);
        is(x.sure(1, 9, 0), OTHER_KIND);
        for (int sort = 1; sort <= 4; sort++) {
            x.row(2, sort, 3);
            is(x.sure(2, 9, 0), OTHER_KIND);
        }
    }

    @Sentence(in = "Promise 23", says = "ON: the CHILD. BAD; STATE: somebody is on one.")
    static void on() {
        TwentyPushes x = by("1", 3, 4, 4);
        int[] wrong = {0, 11, 2, 8, 29, 20, 309, -1, LEAST, MOST};
        for (int sc : wrong) {
            is(x.on(sc), BAD);
        }
        is(x.led(6), STATE);
        is(x.on(210), 1);
        for (int sc : wrong) {
            is(x.on(sc), BAD);
        }
        all(STATE, x.on(9), x.on(210), x.on(110));
        is(x.led(6), 0);
    }

    @Sentence(in = "Promise 24", says = "PUSH: the seconds of that ROUND. STATE: nobody is on.")
    static void push() {
        TwentyPushes x = by("r*3+2", 3, 4);
        is(x.push(), STATE);
        x.on(9);
        is(x.push(), 2);
        is(x.push(), 5);
        is(x.push(), 8);
        is(x.push(), STATE);
        x.on(9);
        x.off();
        is(x.push(), STATE);
        all(3, x.led(1));
    }

    @Sentence(in = "Promise 25", says = "OFF: ROUNDS so far. STATE likewise.")
    static void off() {
        TwentyPushes x = by("2", 5, 4);
        is(x.off(), STATE);
        x.on(9);
        is(x.off(), 0);
        is(x.off(), STATE);
        x.on(9);
        pushes(x, 4);
        is(x.off(), 4);
        is(x.off(), STATE);
        x.on(9);
        pushes(x, 5);
        is(x.off(), STATE);
        is(x.led(3), 2);
    }

    @Sentence(in = "Promise 26", says = "the greatest HEIGHT (4; 0), its CHILD (5; NOT: none above 0),"
            + " ROUNDS of the TURN that is on (6; -5: none is), COUNTED of it (7; -5). BAD.")
    static void led() {
        TwentyPushes x = by("1", 9, 9, 1);
        long[] first = {0, 0, 0, 0, 0, NOT, STATE, STATE};
        for (int what = 0; what <= 7; what++) {
            is(x.led(what), first[what]);
        }
        x.mend(1, 3, 1);
        x.on(1);
        is(x.led(6), 0);
        is(x.led(7), 0);
        pushes(x, 6);
        // HEIGHT 0 is none above 0
        long[] then = {0, 6, 6, 0, 0, NOT, 6, 4};
        for (int what = 0; what <= 7; what++) {
            is(x.led(what), then[what]);
        }
        x.off();
        is(x.led(6), STATE);
        is(x.led(7), STATE);
        x.on(19);
        x.push();
        is(x.led(4), 2);
        is(x.led(5), 1);
        all(BAD, x.led(-1), x.led(8), x.led(LEAST), x.led(MOST));
    }

    @Sentence(in = "Promise 27", says = "AN IMAGE is kept: TURNS.")
    static void image() {
        TwentyPushes x = by("1", 1, 4);
        is(x.image(), 0);
        x.on(9);
        x.push();
        is(x.image(), 1);
        x.on(9);
        is(x.image(), 1);
        x.push();
        is(x.back(), 1);
        is(x.led(6), 0);
    }

    @Sentence(in = "Promise 28", says = "It is laid back: TURNS. STATE: there is none.")
    static void back() {
        TwentyPushes x = by("1", 1, 4);
        is(x.back(), STATE);
        x.on(9);
        is(x.back(), STATE);
        is(x.led(6), 0);
        x.push();
        is(x.led(0), 1);
        x.image();
        x.on(9);
        x.push();
        is(x.led(0), 2);
        all(1, x.back(), x.back());
        is(x.led(0), 1);
    }

    @Sentence(in = "Promise 29", says = "UNDONE: how many may still be. STATE: none.")
    static void undo() {
        TwentyPushes x = with(1);
        is(x.undo(), STATE);
        x.mend(0, 0, 5);
        x.mend(0, 0, 6);
        is(x.undo(), 1);
        is(x.of(0, 0), 5);
        is(x.undo(), 0);
        is(x.of(0, 0), 4);
        is(x.undo(), STATE);
        is(x.of(0, 0), 4);
        is(x.redo(), 1);
    }

    @Sentence(in = "Promise 30", says = "DONE AGAIN: how many may still be. STATE: none.")
    static void redo() {
        TwentyPushes x = with(1);
        is(x.redo(), STATE);
        x.mend(0, 0, 5);
        x.mend(0, 0, 6);
        is(x.redo(), STATE);
        x.undo();
        x.undo();
        is(x.redo(), 1);
        is(x.of(0, 0), 5);
        is(x.redo(), 0);
        is(x.of(0, 0), 6);
        is(x.redo(), STATE);
        is(x.of(0, 0), 6);
        is(x.undo(), 1);
    }

    @Sentence(in = "Promise 31", says = "A BODY of a KIND (0 .. 7) is kept: its number. BAD, FULL.")
    static void body() {
        TwentyPushes x = new TwentyPushes();
        all(BAD, x.body(-1), x.body(8), x.body(LEAST), x.body(MOST));
        is(x.count(3), 0);
        for (int k = 0; k < 50; k++) {
            is(x.body(k % 8), k);
        }
        all(FULL, x.body(0), x.body(7));
        all(BAD, x.body(-1), x.body(8));
        is(x.count(3), 50);
        x.keep(0, 47);
        is(x.taken(0, 0), 7);
    }

    @Sentence(in = "Promise 32", says = "An ACT (0 .. 3) of a BODY with x. 0, and no TRACE then: no such BODY, ACT.")
    static void act() {
        TwentyPushes x = new TwentyPushes();
        x.body(0);
        int[][] wrong = {{1, 0}, {-1, 0}, {LEAST, 0}, {MOST, 0}, {0, 4}, {0, -1}, {0, LEAST}, {0, MOST}};
        long[] wants = {7, 14, 7, 13};
        for (int act = 0; act <= 3; act++) {
            for (int[] none : wrong) {
                is(x.act(0, act, 7), wants[act]);
                is(x.count(4) > 0 ? 1 : 0, 1);
                is(x.act(none[0], none[1], 7), 0);
                is(x.count(4), 0);
                is(x.trace(0), BAD);
            }
        }
    }

    @Sentence(in = "Promise 33", says = "THE TRACE's i-th body. BAD.")
    static void trace() {
        TwentyPushes x = new TwentyPushes();
        x.body(0);
        is(x.trace(0), BAD);
        x.act(0, 3, 7);
        is(x.trace(0), 2);
        is(x.trace(1), 10);
        is(x.trace(2), 1);
        is(x.trace(3), 11);
        all(BAD, x.trace(4), x.trace(-1), x.trace(24), x.trace(LEAST), x.trace(MOST));
        x.act(0, 0, 7);
        is(x.trace(0), 1);
        is(x.trace(1), BAD);
    }

    @Sentence(in = "Promise 34", says = "A SHELF holds nothing (body -1), or a BODY: 1. BAD.")
    static void keep() {
        TwentyPushes x = new TwentyPushes();
        all(BAD, x.keep(0, 0), x.keep(0, -2), x.keep(0, LEAST), x.keep(0, MOST));
        x.body(4);
        for (int shelf : NO_SHELVES) {
            all(BAD, x.keep(shelf, 0), x.keep(shelf, -1));
        }
        is(x.keep(0, 0), 1);
        all(BAD, x.keep(0, 1), x.keep(0, -2));
        is(x.taken(0, 1), 4);
        is(x.keep(0, -1), 1);
        is(x.taken(0, 1), NOTHING_THERE);
        is(x.keep(0, -1), 1);
        x.row(0, 0, 2);
        is(x.keep(0, 0), 1);
        is(x.taken(0, 1), 4);
    }

    @Sentence(in = "Promise 35", says = "A SHELF holds a ROW: 1. BAD (sort, n above 60); -14.")
    static void row() {
        TwentyPushes x = withShelves(new TwentyPushes());
        all(BAD, x.row(0, -1, 1), x.row(0, 5, 1), x.row(0, LEAST, 1), x.row(0, MOST, 1));
        all(BAD, x.row(0, 0, 61), x.row(0, 0, MOST));
        all(BELOW_0, x.row(0, 0, -1), x.row(0, 0, LEAST));
        all(BAD, x.row(0, -1, -1), x.row(0, 5, -1));
        for (int shelf : NO_SHELVES) {
            all(BAD, x.row(shelf, 0, 1), x.row(shelf, 0, -1));
        }
        is(x.put(0, 0, 1), NOTHING_THERE);
        // over nothing, a BODY and another ROW
        for (int shelf = 0; shelf <= 2; shelf++) {
            is(x.row(shelf, 3, 1), 1);
            is(x.put(shelf, 0, MOST), 1);
            is(x.element(shelf, 0), MOST);
            is(x.put(shelf, 1, 1), NO_PLACE);
        }
        is(x.row(0, 3, 60), 1);
        is(x.element(0, 0), 0);
    }

    @Sentence(in = "Promise 36", says = "Element i of a ROW becomes v: 1. BAD, -11, -12, -13.")
    static void put() {
        TwentyPushes x = withShelves(new TwentyPushes());
        for (int shelf : NO_SHELVES) {
            all(BAD, x.put(shelf, 0, 1), x.put(shelf, -1, 1));
        }
        all(NOTHING_THERE, x.put(0, 0, 1), x.put(0, -1, 1), x.put(0, 60, 1));
        all(OTHER_KIND, x.put(1, 0, 1), x.put(1, -1, 1), x.put(1, 60, 1));
        for (int sort = 0; sort <= 4; sort++) {
            x.row(2, sort, 2);
            all(NO_PLACE, x.put(2, -1, 1), x.put(2, 2, 1), x.put(2, LEAST, 1), x.put(2, MOST, 1));
            all(1, x.put(2, 0, 1), x.element(2, 0), x.put(2, 1, 1), x.element(2, 1));
        }
    }

    @Sentence(in = "Promise 37", says = "Element i of a ROW; Long.MIN_VALUE: BAD, -11 to -13.")
    static void element() {
        TwentyPushes x = withShelves(new TwentyPushes());
        for (int shelf : NO_SHELVES) {
            is(x.element(shelf, 0), Long.MIN_VALUE);
        }
        all(Long.MIN_VALUE, x.element(0, 0), x.element(1, 0), x.element(2, -1), x.element(2, 3), x.element(2, LEAST), x.element(2, MOST));
        all(0, x.element(2, 0), x.element(2, 2));
        x.row(2, 3, 1);
        x.put(2, 0, -11);
        is(x.element(2, 0), -11);
        x.put(2, 0, Long.MIN_VALUE);
        is(x.element(2, 0), Long.MIN_VALUE);
    }

    @Sentence(in = "Promise 38", says = "n elements of a ROW from i on come to another one (or the same) from j on, as they all were before: n.")
    static void shiftAsTheyWere() {
        TwentyPushes x = new TwentyPushes();
        int[][] wants = {{1, 1, 2, 3, 4}, {2, 3, 4, 5, 5}, {1, 2, 3, 4, 5}, {1, 2, 3, 4, 5}, {1, 2, 3, 1, 2}};
        int[][] shifts = {{0, 1, 4}, {1, 0, 4}, {0, 0, 5}, {5, 5, 0}, {0, 3, 2}};
        for (int k = 0; k < shifts.length; k++) {
            lay(x, 0, 1, 2, 3, 4, 5);
            is(x.shift(0, shifts[k][0], 0, shifts[k][1], shifts[k][2]), shifts[k][2]);
            for (int i = 0; i < 5; i++) {
                is(x.element(0, i), wants[k][i]);
            }
        }
        for (int sort = 0; sort <= 4; sort++) {
            x.row(1, sort, 60);
            x.row(2, sort, 60);
            x.put(1, 59, 1);
            is(x.shift(1, 0, 2, 0, 60), 60);
            all(1, x.element(2, 59), x.element(1, 59));
            is(x.element(2, 58), 0);
        }
    }

    @Sentence(in = "Promise 38", says = "BAD, -11 (either), -12 (no ROWS, or of unlike sorts), -13 (n below 0, too).")
    static void shiftRefused() {
        TwentyPushes x = withShelves(new TwentyPushes());
        for (int shelf : NO_SHELVES) {
            all(BAD, x.shift(shelf, 0, 3, 0, 1), x.shift(3, 0, shelf, 0, 1), x.shift(shelf, 0, 0, 0, 1), x.shift(0, 0, shelf, 0, 1));
        }
        all(NOTHING_THERE, x.shift(0, 0, 3, 0, 1), x.shift(3, 0, 0, 0, 1), x.shift(0, 0, 0, 0, 0), x.shift(0, 0, 1, 0, 1), x.shift(1, 0, 0, 0, 1));
        all(OTHER_KIND, x.shift(1, 0, 3, 0, 1), x.shift(3, 0, 1, 0, 1), x.shift(1, 0, 1, 0, 0), x.shift(2, 0, 3, 0, 1), x.shift(3, 0, 2, 0, 0),
                x.shift(3, 9, 2, 9, -1));
        for (int sort = 0; sort <= 4; sort++) {
            x.row(4, sort, 3);
            for (int other = 0; other <= 4; other++) {
                x.row(5, other, 3);
                is(x.shift(4, 0, 5, 0, 3), sort == other ? 3 : OTHER_KIND);
            }
        }
        all(NO_PLACE, x.shift(3, 0, 3, 0, -1), x.shift(3, 0, 3, 0, LEAST), x.shift(3, 0, 3, 0, 4), x.shift(3, 0, 3, 0, MOST));
        all(NO_PLACE, x.shift(3, -1, 3, 0, 1), x.shift(3, 0, 3, -1, 1), x.shift(3, -1, 3, 0, 0), x.shift(3, 0, 3, -1, 0));
        all(NO_PLACE, x.shift(3, 3, 3, 0, 1), x.shift(3, 0, 3, 3, 1), x.shift(3, 2, 3, 0, 2), x.shift(3, 0, 3, 2, 2));
        all(NO_PLACE, x.shift(3, 4, 3, 0, 0), x.shift(3, 0, 3, 4, 0), x.shift(3, MOST, 3, 0, MOST), x.shift(3, 0, 3, LEAST, LEAST));
        all(0, x.shift(3, 3, 3, 3, 0), x.shift(3, 0, 3, 3, 0));
    }

    @Sentence(in = "Promise 39", says = "What a SHELF holds, taken for a BODY of KIND k (0 .. 7), or under it: its KIND. BAD, -11, -12.")
    static void taken() {
        TwentyPushes x = withShelves(new TwentyPushes());
        all(3, x.taken(1, 0), x.taken(1, 2), x.taken(1, 3));
        all(OTHER_KIND, x.taken(1, 1), x.taken(1, 4), x.taken(1, 5), x.taken(1, 6), x.taken(1, 7));
        all(OTHER_KIND, x.taken(2, 0), x.taken(3, 7));
        all(NOTHING_THERE, x.taken(0, 0), x.taken(0, 7));
        for (int shelf : NO_SHELVES) {
            is(x.taken(shelf, 0), BAD);
        }
        for (int shelf = 0; shelf <= 3; shelf++) {
            all(BAD, x.taken(shelf, -1), x.taken(shelf, 8), x.taken(shelf, LEAST), x.taken(shelf, MOST));
        }
    }

    @Sentence(in = "Promise 40", says = "0 CHILDREN, 1 bytes on THE TAPE, 2 changes that may be UNDONE, 3 BODIES, 4 bodies that ran in the latest act()"
            + " (all, kept or not). BAD.")
    static void count() {
        TwentyPushes x = with(1);
        feed(x, "12");
        x.mend(0, 8, 1);
        x.mend(0, 8, 2);
        x.mend(0, 8, 3);
        for (int k = 0; k < 4; k++) {
            x.body(5);
        }
        x.act(0, 3, 1);
        long[] wants = {1, 2, 3, 4, 10};
        for (int what = 0; what <= 4; what++) {
            is(x.count(what), wants[what]);
        }
        all(BAD, x.count(-1), x.count(5), x.count(LEAST), x.count(MOST));
    }
}
