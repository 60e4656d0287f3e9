/** Terms 5: BODIES, ACTS, SHELVES, CHILDREN FROM A ROW. */
final class ActBounds extends Bounds {
    private static TwentyPushes eachKind() {
        TwentyPushes x = new TwentyPushes();
        for (int kind = 0; kind < 8; kind++) {
            x.body(kind);
        }
        return x;
    }

    @Sentence(in = "Terms 5", says = "BODIES 0 .. 49 are kept by call")
    static void fiftyBodies() {
        TwentyPushes x = new TwentyPushes();
        all(0, x.act(0, 0, 7), x.act(-1, 0, 7));
        is(x.keep(0, 0), BAD);
        for (int k = 0; k <= 49; k++) {
            is(x.body(0), k);
            is(x.act(k, 0, 100), 100 + k);
        }
        is(x.body(0), FULL);
        all(0, x.act(50, 0, 7), x.act(-1, 0, 7));
        is(x.keep(0, 49), 1);
        is(x.keep(0, 50), BAD);
        is(x.count(3), 50);
    }

    @Sentence(in = "Terms 5", says = "of KINDS: 0 TURN; 1 PLAIN under TURN; 2 STRETCHED under TURN; 3 HELPED under STRETCHED;"
            + " 4 COUNTED under PLAIN; 5 HELD under HELPED; 6 SHORT under TURN; 7 LAST under SHORT.")
    static void kinds() {
        TwentyPushes x = eachKind();
        all(BAD, x.body(-1), x.body(8));
        String[] itselfAndAbove = {"0", "01", "02", "023", "014", "0235", "06", "067"};
        for (int kind = 0; kind < 8; kind++) {
            x.keep(0, kind);
            for (int k = 0; k < 8; k++) {
                is(x.taken(0, k), itselfAndAbove[kind].indexOf('0' + k) >= 0 ? kind : OTHER_KIND);
            }
        }
    }

    @Sentence(in = "Terms 5", says = "ACTS with x (an int that wraps): 0 swings, 1 counts, 2 waits, 3 tells; n its number.")
    static void actsWrap() {
        TwentyPushes x = eachKind();
        x.body(0);
        is(x.act(8, 0, MOST), LEAST + 7);
        is(x.act(0, 1, 1 << 30), LEAST);
        is(x.act(0, 1, LEAST), 0);
        is(x.act(1, 0, MOST - 3), LEAST);
        is(x.act(2, 1, (1 << 30) - 2), LEAST);
        is(x.act(3, 2, (1 << 30) ^ 3), (1 << 30) * 3);
        is(x.act(3, 1, MOST), -6);
        is(x.act(6, 0, (1 << 30) - 6), LEAST);
        is(x.act(7, 0, (1 << 30) - 7), MOST);
        is(x.act(0, 2, LEAST), LEAST);
        is(x.act(0, 3, LEAST), -1);
        all(0, x.act(0, -1, 5), x.act(0, 4, 5));
    }

    /** By KIND what swings, counts, waits and tells of 5 give; n is the KIND. */
    @Sentence(in = "Terms 5", says = "swings(..) and so on: the body of its own KIND, or of the next KIND above that has one;"
            + " super: from the KIND above the body's on.")
    static void nextAbove() {
        TwentyPushes x = eachKind();
        long[][] wants = {{5, 10, 5, 9}, {9, 18, 4, 18}, {7, -14, 7, -17}, {8, -18, 18, -24},
            {12, 24, 1, 22}, {10, -22, -7, -26}, {22, 44, 3, 37}, {23, 51, 2, 45}};
        int[][] ran = {{1}, {20, 1}, {1}, {1}, {20, 1}, {1}, {70, 1}, {81, 70, 1}};
        for (int kind = 0; kind < 8; kind++) {
            for (int act = 0; act < 4; act++) {
                is(x.act(kind, act, 5), wants[kind][act]);
            }
            x.act(kind, 0, 5);
            is(x.count(4), ran[kind].length);
            for (int k = 0; k < ran[kind].length; k++) {
                is(x.trace(k), ran[kind][k]);
            }
        }
    }

    /** None runs more than ten: HELD tells. */
    @Sentence(in = "Terms 5", says = "THE TRACE: numbers of the bodies that ran in the latest act(), as they began; the first 24 are kept.")
    static void trace() {
        TwentyPushes x = eachKind();
        is(x.trace(0), BAD);
        x.act(5, 3, 5);
        int[] ran = {61, 2, 41, 30, 10, 1, 60, 40, 11, 1};
        for (int k = 0; k < 10; k++) {
            is(x.trace(k), ran[k]);
        }
        all(BAD, x.trace(10), x.trace(23), x.trace(24), x.trace(-1), x.trace(LEAST), x.trace(MOST));
        is(x.count(4), 10);
        x.act(0, 2, 5);
        is(x.trace(0), 11);
        is(x.trace(1), BAD);
        is(x.count(4), 1);
    }

    @Sentence(in = "Terms 5", says = "SHELVES 0 .. 5 each hold nothing (at first), a BODY, or a ROW")
    static void sixShelves() {
        TwentyPushes x = new TwentyPushes();
        x.body(0);
        for (int shelf = 0; shelf <= 5; shelf++) {
            is(x.taken(shelf, 0), NOTHING_THERE);
            is(x.put(shelf, 0, 1), NOTHING_THERE);
            is(x.keep(shelf, 0), 1);
            is(x.taken(shelf, 0), 0);
            is(x.put(shelf, 0, 1), OTHER_KIND);
            is(x.row(shelf, 3, 1), 1);
            is(x.taken(shelf, 0), OTHER_KIND);
            is(x.put(shelf, 0, 70 + shelf), 1);
            is(x.keep(5 - shelf, 0), 1);
            is(x.row(5 - shelf, 3, 1), 1);
            is(x.keep(5 - shelf, -1), 1);
            is(x.taken(5 - shelf, 0), NOTHING_THERE);
            is(x.keep(shelf, -1), 1);
        }
        all(BAD, x.taken(-1, 0), x.taken(6, 0), x.keep(-1, 0), x.keep(6, 0), x.row(-1, 0, 1), x.row(6, 0, 1));
    }

    @Sentence(in = "Terms 5", says = "SHELVES 0 .. 5 each hold")
    static void noShelfTouchesAnother() {
        TwentyPushes x = new TwentyPushes();
        for (int shelf = 0; shelf <= 5; shelf++) {
            x.row(shelf, 3, 60);
            x.put(shelf, 0, 10 + shelf);
            x.put(shelf, 59, 20 + shelf);
        }
        for (int shelf = 0; shelf <= 5; shelf++) {
            is(x.row(shelf, 3, 60), 1);
            all(0, x.element(shelf, 0), x.element(shelf, 59));
            x.put(shelf, 0, 30 + shelf);
            x.put(shelf, 59, 40 + shelf);
            for (int other = 0; other <= 5; other++) {
                is(x.element(other, 0), (other <= shelf ? 30 : 10) + other);
                is(x.element(other, 59), (other <= shelf ? 40 : 20) + other);
            }
        }
        is(x.shift(0, 0, 5, 0, 60), 60);
        is(x.shift(5, 0, 3, 1, 59), 59);
        long[] firsts = {30, 31, 32, 33, 34, 30};
        long[] lasts = {40, 41, 42, 0, 44, 40};
        for (int shelf = 0; shelf <= 5; shelf++) {
            is(x.element(shelf, 0), firsts[shelf]);
            is(x.element(shelf, 59), lasts[shelf]);
        }
        is(x.element(3, 1), 30);
    }

    @Sentence(in = "Terms 5", says = "of 0 bytes, 1 shorts, 2 ints, 3 longs, 4 booleans, of 0 .. 60 elements, 0 at first (false)")
    static void rows() {
        TwentyPushes x = new TwentyPushes();
        for (int sort = 0; sort <= 4; sort++) {
            is(x.row(sort, sort, 60), 1);
            for (int i = 0; i < 60; i += 59) {
                is(x.element(sort, i), 0);
                is(x.put(sort, i, 1), 1);
                is(x.element(sort, i), 1);
            }
            is(x.put(sort, 60, 1), NO_PLACE);
            is(x.row(sort, sort, 60), 1);
            is(x.element(sort, 59), 0);
            is(x.row(sort, sort, 0), 1);
            is(x.put(sort, 0, 1), NO_PLACE);
            is(x.row(sort, sort, 61), BAD);
            is(x.row(sort, sort, -1), BELOW_0);
            is(x.put(sort, 0, 1), NO_PLACE);
        }
        all(BAD, x.row(0, -1, 1), x.row(0, 5, 1));
    }

    @Sentence(in = "Terms 5", says = "what is put in keeps its lowest bits (a boolean: whether it is not 0; 1 or 0).")
    static void lowestBits() {
        TwentyPushes x = new TwentyPushes();
        long[] puts = {127, 128, 255, 256, -129, 32767, 32768, 65535, 65536, MOST, 1L << 31, 0xffffffffL, 1L << 32,
            Long.MAX_VALUE, Long.MIN_VALUE, 0};
        long[][] wants = {
            {127, -128, -1, 0, 127, -1, 0, -1, 0, -1, 0, -1, 0, -1, 0, 0},
            {127, 128, 255, 256, -129, 32767, -32768, -1, 0, -1, 0, -1, 0, -1, 0, 0},
            {127, 128, 255, 256, -129, 32767, 32768, 65535, 65536, MOST, LEAST, -1, 0, -1, 0, 0},
            puts,
            {1, 1, 1, 1, 1, 1, 1, 1, 1, 1, 1, 1, 1, 1, 1, 0}};
        for (int sort = 0; sort <= 4; sort++) {
            x.row(sort, sort, 1);
            for (int k = 0; k < puts.length; k++) {
                is(x.put(sort, 0, puts[k]), 1);
                is(x.element(sort, 0), wants[sort][k]);
            }
        }
    }

    @Sentence(in = "Terms 5", says = "-11 nothing is there where something is wanted")
    static void nothingIsThere() {
        TwentyPushes x = withShelves(with(1));
        all(NOTHING_THERE, x.put(0, 0, 1), x.taken(0, 0), x.judge(0, 9, 0), x.who(0, 9, 0), x.sure(0, 9, 0),
                x.shift(0, 0, 3, 0, 1), x.shift(3, 0, 0, 0, 1));
        is(x.children(0, 0, 1), 0);
    }

    @Sentence(in = "Terms 5", says = "-12 it is of another kind")
    static void ofAnotherKind() {
        TwentyPushes x = withShelves(with(1));
        all(OTHER_KIND, x.put(1, 0, 1), x.taken(1, 4), x.taken(2, 0), x.taken(3, 0), x.shift(1, 0, 3, 0, 1), x.shift(3, 0, 2, 0, 1));
        for (int shelf = 1; shelf <= 2; shelf++) {
            all(OTHER_KIND, x.judge(shelf, 9, 0), x.who(shelf, 9, 0), x.sure(shelf, 9, 0), x.children(shelf, 0, 1));
        }
    }

    @Sentence(in = "Terms 5", says = "-13 a place that is not there")
    static void noPlace() {
        TwentyPushes x = withShelves(with(1));
        for (int shelf = 2; shelf <= 3; shelf++) {
            all(NO_PLACE, x.put(shelf, -1, 1), x.put(shelf, 3, 1), x.put(shelf, LEAST, 1), x.put(shelf, MOST, 1),
                    x.shift(shelf, 3, shelf, 0, 1), x.shift(shelf, 0, shelf, 3, 1), x.shift(shelf, -1, shelf, 0, 1));
            all(1, x.put(shelf, 0, 1), x.put(shelf, 2, 1));
        }
    }

    @Sentence(in = "Terms 5", says = "-14 a size below 0.")
    static void sizeBelow0() {
        TwentyPushes x = new TwentyPushes();
        all(BELOW_0, x.row(0, 0, -1), x.row(5, 4, -1), x.row(0, 0, LEAST));
        is(x.put(0, 0, 1), NOTHING_THERE);
        is(x.row(0, 0, 0), 1);
    }

    // ---- CHILDREN FROM A ROW

    @Sentence(in = "Terms 5", says = "by threes WEIGHT, LEGS, QUEUE: n of them")
    static void byThrees() {
        TwentyPushes x = new TwentyPushes();
        lay(x, 0, 9, 1, 0, 5, 3, 2, 9, 0, 3);
        is(x.children(0, 3, 2), 2);
        is(x.children(0, 0, 1), 1);
        all(0, x.children(0, 1, 1), x.children(0, 2, 1), x.children(0, 4, 1));
        is(x.count(0), 3);
        long[][] wants = {{5, 3, 2}, {9, 0, 3}, {9, 1, 0}};
        int[] what = {0, 1, 5};
        for (int child = 0; child < 3; child++) {
            for (int k = 0; k < 3; k++) {
                is(x.of(child, what[k]), wants[child][k]);
            }
            is(x.of(child, 2), 9);
            is(x.of(child, 3), 0);
            is(x.of(child, 4), 9);
        }
    }

    @Sentence(in = "Terms 5", says = "it ends where the row is missing")
    static void rowIsMissing() {
        TwentyPushes x = new TwentyPushes();
        all(0, x.children(0, 0, 1), x.children(5, 0, 9), x.children(0, -1, 1), x.children(0, MOST, 1));
        lay(x, 0, 4, 1, 0);
        x.keep(0, -1);
        is(x.children(0, 0, 1), 0);
        is(x.count(0), 0);
    }

    @Sentence(in = "Terms 5", says = "ends (within a three, too)")
    static void rowEnds() {
        TwentyPushes x = new TwentyPushes();
        int[] came = {0, 0, 0, 1, 1, 1, 2};
        for (int size = 0; size <= 6; size++) {
            lay(x, 0, new int[] {4, 1, 0, 6, 2, 1, 0, 0}, size);
            is(x.children(0, 0, 9), came[size]);
        }
        is(x.count(0), 5);
        all(0, x.children(0, 4, 1), x.children(0, 5, 1), x.children(0, 6, 1), x.children(0, 7, 1), x.children(0, MOST, 9),
                x.children(0, MOST - 2, 9));
        is(x.children(0, 3, 9), 1);
        is(x.of(5, 0), 6);
    }

    private static void lay(TwentyPushes x, int shelf, int[] bytes, int size) {
        x.row(shelf, 0, size);
        for (int k = 0; k < size; k++) {
            x.put(shelf, k, bytes[k]);
        }
    }

    @Sentence(in = "Terms 5", says = "one is not as it may be")
    static void oneIsNotAsItMayBe() {
        int[][] spoilt = {{0, 1, 0}, {10, 1, 0}, {-1, 1, 0}, {4, -1, 0}, {4, 4, 0}, {4, 10, 0}, {4, 1, -1}, {4, 1, 4}, {-128, 127, 127}};
        for (int[] three : spoilt) {
            TwentyPushes x = new TwentyPushes();
            lay(x, 0, 9, 3, 3, three[0], three[1], three[2], 1, 0, 0);
            is(x.children(0, 0, 9), 1);
            is(x.children(0, 3, 9), 0);
            is(x.children(0, 6, 9), 1);
            is(x.count(0), 2);
        }
    }

    @Sentence(in = "Terms 5", says = "or CHILDREN are FULL: those ahead came.")
    static void childrenAreFull() {
        TwentyPushes x = with(7);
        lay(x, 0, 1, 0, 0, 2, 0, 0, 3, 0, 0);
        is(x.children(0, 0, 3), 2);
        is(x.count(0), 9);
        is(x.of(7, 0), 1);
        is(x.of(8, 0), 2);
        is(x.children(0, 0, 3), 0);
        is(x.count(0), 9);
        TwentyPushes y = new TwentyPushes();
        y.row(0, 0, 60);
        for (int k = 0; k < 60; k += 3) {
            y.put(0, k, 5);
        }
        is(y.children(0, 0, 9), 9);
        is(y.children(0, 27, 9), 0);
    }
}
