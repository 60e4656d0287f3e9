/** Promises 1 to 19: each call's own line, with what it refuses by each of its numbers. */
final class PromiseBounds extends Bounds {
    @Sentence(in = "Promise 1", says = "Empty swings.")
    static void emptySwings() {
        TwentyPushes x = new TwentyPushes();
        for (int what = 0; what <= 4; what++) {
            is(x.count(what), 0);
        }
        for (int swing = -1; swing <= 2; swing++) {
            is(x.been(3600, swing), 0);
        }
        all(0, x.order(0, -1), x.order(1, -1), x.order(2, -1), x.drawn(0, 10, 3600, -1));
        all(STATE, x.push(), x.off(), x.back(), x.undo(), x.redo(), x.led(6), x.led(7));
        all(BAD, x.turn(9, 0, 0), x.on(9), x.of(0, 0), x.trace(0));
        is(x.law(), -100);
    }

    @Sentence(in = "Promise 2", says = "A CHILD (wl: 10 WEIGHT and LEGS), its QUEUE: its number.")
    static void childAsTold() {
        TwentyPushes x = new TwentyPushes();
        int[][] comes = {{10, 0}, {93, 3}, {40, 1}, {13, 2}};
        for (int k = 0; k < comes.length; k++) {
            is(x.child(comes[k][0], comes[k][1]), k);
            is(x.of(k, 0), comes[k][0] / 10);
            is(x.of(k, 1), comes[k][0] % 10);
            is(x.of(k, 2), 9);
            is(x.of(k, 3), 0);
            is(x.of(k, 4), 9);
            is(x.of(k, 5), comes[k][1]);
        }
        is(x.count(0), 4);
    }

    @Sentence(in = "Promise 2", says = "BAD, FULL: 9.")
    static void child() {
        TwentyPushes x = new TwentyPushes();
        all(BAD, x.child(9, 0), x.child(3, 0), x.child(0, 0), x.child(100, 0), x.child(103, 0), x.child(14, 0), x.child(19, 0),
                x.child(-1, 0), x.child(-10, 0), x.child(-41, 0), x.child(LEAST, 0), x.child(MOST, 0));
        all(BAD, x.child(41, -1), x.child(41, 4), x.child(41, LEAST), x.child(41, MOST));
        is(x.count(0), 0);
        is(x.child(10, 0), 0);
        is(x.child(93, 3), 1);
        for (int k = 2; k < 9; k++) {
            is(x.child(41, 0), k);
        }
        all(FULL, x.child(41, 0), x.child(10, 3));
        all(BAD, x.child(9, 0), x.child(41, 4));
        is(x.count(0), 9);
    }

    @Sentence(in = "Promise 3", says = "n (1 .. 9) of them")
    static void childrenSoMany() {
        for (int n = 1; n <= 9; n++) {
            TwentyPushes x = new TwentyPushes();
            x.row(0, 0, 60);
            for (int k = 0; k < 60; k += 3) {
                x.put(0, k, 4);
            }
            is(x.children(0, 0, n), n);
            is(x.count(0), n);
            all(BAD, x.children(0, 0, 0), x.children(0, 0, 10), x.children(0, 0, -1), x.children(0, 0, LEAST), x.children(0, 0, MOST));
        }
    }

    @Sentence(in = "Promise 3", says = "how many came (0 with i below 0)")
    static void childrenFromBelow0() {
        TwentyPushes x = new TwentyPushes();
        x.row(0, 0, 9);
        for (int k = 0; k < 9; k++) {
            x.put(0, k, 1);
        }
        all(0, x.children(0, -1, 1), x.children(0, -3, 3), x.children(0, LEAST, 9), x.children(1, -1, 1));
        is(x.count(0), 0);
        is(x.children(0, 0, 2), 2);
    }

    @Sentence(in = "Promise 3", says = "BAD, -12 (no ROW of bytes; a SHELF that holds nothing is missing)")
    static void childrenRefused() {
        TwentyPushes x = withShelves(new TwentyPushes());
        all(BAD, x.children(-1, 0, 1), x.children(6, 0, 1), x.children(LEAST, 0, 1), x.children(MOST, 0, 1));
        is(x.children(1, 0, 1), OTHER_KIND);
        for (int sort = 1; sort <= 4; sort++) {
            x.row(2, sort, 60);
            is(x.children(2, 0, 1), OTHER_KIND);
        }
        is(x.children(0, 0, 1), 0);
        is(x.children(3, 0, 1), 0);
    }

    @Sentence(in = "Promise 4", says = "FRIEND (4; not itself; a CHILD there, or 9)")
    static void mendFriend() {
        TwentyPushes x = with(3);
        all(BAD, x.mend(0, 4, 0), x.mend(2, 4, 2), x.mend(0, 4, 3), x.mend(0, 4, 8), x.mend(0, 4, -1), x.mend(0, 4, 10));
        is(x.of(0, 4), 9);
        is(x.mend(0, 4, 2), 9);
        is(x.mend(0, 4, 1), 2);
        is(x.mend(0, 4, 9), 1);
        is(x.mend(2, 4, 0), 9);
    }

    @Sentence(in = "Promise 4", says = "TIRED (10; number 0 for these, another: BAD) becomes v: what it was. BAD.")
    static void mendNumber() {
        TwentyPushes x = with(2);
        for (int what = 7; what <= 10; what++) {
            all(BAD, x.mend(1, what, 1), x.mend(-1, what, 1), x.mend(LEAST, what, 1), x.mend(MOST, what, 1));
            is(x.mend(0, what, 1), what == 7 ? 2 : what == 8 ? 20 : 0);
        }
        for (int what = 0; what <= 5; what++) {
            all(BAD, x.mend(2, what, 3), x.mend(-1, what, 3), x.mend(LEAST, what, 3), x.mend(MOST, what, 3));
        }
        all(BAD, x.mend(3, 6, 3), x.mend(-1, 6, 3), x.mend(LEAST, 6, 3), x.mend(MOST, 6, 3));
        all(BAD, x.mend(0, 11, 1), x.mend(0, -1, 1), x.mend(0, LEAST, 1), x.mend(0, MOST, 1));
        is(x.count(2), 4);
    }

    @Sentence(in = "Promise 5", says = "As of mend() (0 to 10). BAD.")
    static void of() {
        TwentyPushes x = with(2);
        int[] wants = {4, 1, 9, 0, 9, 0, 6, 2, 20, 0, 0};
        for (int what = 0; what <= 10; what++) {
            is(x.of(0, what), wants[what]);
            is(x.of(1, what), what <= 6 ? wants[what] : BAD);
            is(x.of(2, what), what == 6 ? 6 : BAD);
            all(BAD, x.of(-1, what), x.of(3, what), x.of(LEAST, what), x.of(MOST, what));
        }
        all(BAD, x.of(0, -1), x.of(0, 11), x.of(0, LEAST), x.of(0, MOST));
    }

    @Sentence(in = "Promise 6", says = "A byte (0 .. 255) comes to THE TAPE: how many it has. BAD, FULL (120).")
    static void feed() {
        TwentyPushes x = new TwentyPushes();
        all(BAD, x.feed(-1), x.feed(256), x.feed(LEAST), x.feed(MOST));
        is(x.count(1), 0);
        is(x.feed(0), 1);
        is(x.feed(255), 2);
        for (int k = 3; k <= 120; k++) {
            is(x.feed('1'), k);
        }
        all(FULL, x.feed('1'), x.feed(0), x.feed(255));
        all(BAD, x.feed(-1), x.feed(256));
        is(x.count(1), 120);
        is(x.law(), -100);
        is(x.feed('1'), 1);
    }

    @Sentence(in = "Promise 7", says = "THE TAPE becomes THE LAW: 1; -100 less its FAULT; THE TAPE is empty then.")
    static void law() {
        TwentyPushes x = by("3", 2, 4);
        is(x.turn(9, 0, 1), 6);
        is(x.law(), -100);
        is(enact(x, "5x"), -101);
        is(x.count(1), 0);
        is(x.turn(9, 0, 1), 6);
        is(x.law(), -100);
        is(enact(x, "5+"), -102);
        is(x.turn(9, 0, 1), 6);
        is(enact(x, "5"), 1);
        is(x.count(1), 0);
        is(x.turn(9, 0, 1), 10);
        is(x.law(), -100);
        is(x.turn(9, 0, 1), 10);
        StringBuilder open = new StringBuilder("1");
        while (open.length() < 120) {
            open.append(open.length() % 2 == 1 ? "+" : "1");
        }
        is(enact(x, open.toString()), -220);
        is(enact(x, "h"), 1);
        is(x.turn(9, 0, 1), 1 + 2);
    }

    @Sentence(in = "Calls", says = "(sc: 100 times the SWING, 10 times the CHILD, and who counts, 9: as it is; not itself)")
    static void told() {
        TwentyPushes x = with(3);
        // no SWING, no CHILD, nobody that counts, itself
        int[] wrong = {309, 300, 1000, -1, -9, -100, -109, LEAST, MOST, 39, 31, 89, 99, 90, 3, 8, 103, 0, 11, 22, 122, 222};
        for (int sc : wrong) {
            all(BAD, x.turn(sc, 0, 0), x.longest(sc, 0), x.counter(sc, 0), x.judge(0, sc, 0), x.sure(0, sc, 0), x.on(sc));
            is(x.unfair(sc, 0), VOID);
        }
        int[] right = {9, 1, 2, 19, 10, 12, 29, 20, 21, 109, 212, 229};
        for (int sc : right) {
            is(x.turn(sc, 0, 0), 20);
            is(x.on(sc), sc / 10 % 10);
            x.off();
        }
    }

    /** All that may be told: SWINGS of LENGTH 1, 2, 3; who counts does so by the rest of its number by 4, 9 as it is. */
    @Sentence(in = "Calls", says = "100 times the SWING, 10 times the CHILD, and who counts, 9: as it is; not itself")
    static void eachOneTold() {
        int[] rounds = {12, 17, 10, 20};
        for (int swing = 0; swing <= 2; swing++) {
            TwentyPushes x = by("s", 12, 1, 2, 3, 4, 5, 6, 7, 8, 9);
            for (int k = 0; k < 9; k++) {
                x.mend(k, 3, k % 4);
                x.mend(k, 2, k);
            }
            for (int k = 0; k <= 2; k++) {
                x.mend(k, 6, k + 1);
            }
            for (int child = 0; child < 9; child++) {
                for (int counts = 0; counts <= 9; counts++) {
                    int sc = 100 * swing + 10 * child + counts;
                    int due = rounds[counts < 9 ? counts % 4 : 0];
                    is(x.turn(sc, 0, 1), child == counts ? BAD : due * (swing + 1));
                    is(x.unfair(sc, 8), child == counts ? VOID : due - 12);
                    is(x.on(sc), child == counts ? BAD : child);
                    is(x.off(), child == counts ? STATE : 0);
                }
                // up to its CAP go those that rise at all
                is(x.turn(100 * swing + 10 * child + 9, 0, 2), child < 5 ? child : 0);
            }
        }
    }

    @Sentence(in = "Promise 8", says = "A TURN, q waiting (0 .. 8): ROUNDS (what 0), seconds (1), the greatest HEIGHT (2), COUNTED (3). BAD.")
    static void turn() {
        TwentyPushes x = by("q+1", 7, 1, 4);
        x.mend(1, 3, 2);
        is(x.turn(1, 0, 1), 6);
        is(x.turn(1, 8, 1), 6 * 9);
        long[] wants = {6, 6, 9, 7};
        for (int what = 0; what <= 3; what++) {
            is(x.turn(1, 0, what), wants[what]);
        }
        all(BAD, x.turn(1, -1, 0), x.turn(1, 9, 0), x.turn(1, LEAST, 0), x.turn(1, MOST, 0));
        all(BAD, x.turn(1, 0, -1), x.turn(1, 0, 4), x.turn(1, 0, LEAST), x.turn(1, 0, MOST));
        all(BAD, x.turn(0, 0, 0), x.turn(29, 0, 0), x.turn(2, 0, 0), x.turn(309, 0, 0), x.turn(-1, 0, 0));
    }

    @Sentence(in = "Promise 9", says = "LONGEST. BAD.")
    static void longest() {
        TwentyPushes x = by("h=q?9;1", 3, 1, 4);
        for (int q = 0; q <= 8; q++) {
            is(x.longest(9, q), q <= 6 ? q : 0);
        }
        all(BAD, x.longest(9, -1), x.longest(9, 9), x.longest(9, LEAST), x.longest(9, MOST));
        all(BAD, x.longest(0, 0), x.longest(29, 0), x.longest(2, 0), x.longest(309, 0), x.longest(-1, 0));
        is(x.of(0, 2), 9);
    }

    @Sentence(in = "Promise 10", says = "(sc by SWING and CHILD; who counts there does not matter, but must be one). BAD.")
    static void counter() {
        TwentyPushes x = by("1", 20, 4, 4, 4);
        x.mend(2, 3, 1);
        all(2, x.counter(9, 0), x.counter(1, 0), x.counter(2, 0), x.counter(201, 8));
        all(BAD, x.counter(0, 0), x.counter(3, 0), x.counter(8, 0), x.counter(39, 0), x.counter(309, 0), x.counter(-1, 0));
        all(BAD, x.counter(9, -1), x.counter(9, 9), x.counter(9, LEAST), x.counter(9, MOST));
    }

    @Sentence(in = "Promise 11", says = "UNFAIR. VOID: BAD.")
    static void unfair() {
        TwentyPushes x = by("1", 20, 4, 4, 4);
        x.mend(1, 3, 2);
        is(x.unfair(1, 8), -4);
        all(VOID, x.unfair(0, 0), x.unfair(3, 0), x.unfair(39, 0), x.unfair(309, 0), x.unfair(-1, 0));
        all(VOID, x.unfair(9, -1), x.unfair(9, 9), x.unfair(9, LEAST), x.unfair(9, MOST));
    }

    /** The calls that take a BELL refuse it alike. */
    private static final int[] NO_BELLS = {0, -1, 3601, LEAST, MOST};

    @Sentence(in = "Promise 12", says = "HOW OFTEN (what 0), WAITED (1; NOT), ROUNDS (2) of a CHILD. BAD.")
    static void afternoon() {
        TwentyPushes x = by("1", 10, 4, 4);
        long[][] wants = {{1, 0, 10}, {0, NOT, 0}};
        for (int what = 0; what <= 2; what++) {
            is(x.afternoon(19, 0, what), wants[0][what]);
            is(x.afternoon(19, 1, what), wants[1][what]);
            for (int bell : NO_BELLS) {
                is(x.afternoon(bell, 0, what), BAD);
            }
        }
        all(BAD, x.afternoon(9, 2, 1), x.afternoon(9, -1, 1), x.afternoon(9, LEAST, 1), x.afternoon(9, MOST, 1));
        all(BAD, x.afternoon(9, 0, -1), x.afternoon(9, 0, 3), x.afternoon(9, 0, LEAST), x.afternoon(9, 0, MOST));
    }

    @Sentence(in = "Promise 13", says = "NOT BEEN, as bits (swing -1), the last TURN's end on a SWING. BAD.")
    static void been() {
        TwentyPushes x = by("1", 10, 4, 4);
        is(x.been(19, -1), 2);
        is(x.been(19, 0), 10);
        is(x.been(19, 2), 0);
        all(BAD, x.been(19, -2), x.been(19, 3), x.been(19, LEAST), x.been(19, MOST));
        for (int bell : NO_BELLS) {
            all(BAD, x.been(bell, -1), x.been(bell, 0));
        }
    }

    @Sentence(in = "Promise 14", says = "JOIN: the SWING (what 0), after how many seconds (1). BAD; NOT.")
    static void join() {
        TwentyPushes x = by("1", 10, 4, 4);
        x.child(40, 1);
        x.mend(1, 5, 2);
        x.child(40, 3);
        is(x.join(20, 3, 0), 0);
        is(x.join(20, 3, 1), 10);
        all(NOT, x.join(19, 3, 0), x.join(19, 3, 1));
        for (int bell : NO_BELLS) {
            all(BAD, x.join(bell, 3, 0), x.join(bell, 3, 1));
        }
        all(BAD, x.join(9, 4, 0), x.join(9, -1, 0), x.join(9, LEAST, 0), x.join(9, MOST, 0));
        all(BAD, x.join(9, 3, -1), x.join(9, 3, 2), x.join(9, 3, LEAST), x.join(9, 3, MOST));
    }

    @Sentence(in = "Promise 15", says = "EACH. BAD; NOT.")
    static void each() {
        TwentyPushes x = by("1", 10, 4, 4);
        is(x.each(3600), 30);
        is(x.each(2), 1);
        is(x.each(1), NOT);
        for (int bell : NO_BELLS) {
            is(x.each(bell), BAD);
        }
        for (int bell : NO_BELLS) {
            is(new TwentyPushes().each(bell), BAD);
        }
    }

    @Sentence(in = "Promise 16", says = "ORDER: seconds (place -1), the CHILD at a place. BAD; STATE.")
    static void order() {
        TwentyPushes x = by("w", 1, 4, 3, 2, 1, 5);
        is(x.order(0, -1), 1 * 4 + 2 * 3 + 3 * 2 + 4);
        is(x.order(0, 0), 3);
        is(x.order(0, 4), 4);
        all(BAD, x.order(0, 5), x.order(0, -2), x.order(0, LEAST), x.order(0, MOST));
        all(BAD, x.order(1, 0), x.order(3, -1), x.order(-1, -1), x.order(LEAST, 0), x.order(MOST, 0));
        x.child(40, 0);
        all(STATE, x.order(0, -1), x.order(0, 0), x.order(0, 5));
        all(BAD, x.order(0, -2), x.order(0, 6));
    }

    @Sentence(in = "Promise 17", says = "HELD (cm: 10 times the CHILD, and m). BAD; STATE: it is in no QUEUE.")
    static void held() {
        TwentyPushes x = by("1", 10, 4, 4);
        x.child(40, 3);
        is(x.held(10, 0), 1);
        is(x.held(19, 10), 0);
        is(x.held(20, 19), 1);
        all(STATE, x.held(3600, 20), x.held(1, 29));
        all(BAD, x.held(10, 30), x.held(10, 90), x.held(10, 100), x.held(10, -1), x.held(10, -10), x.held(10, LEAST), x.held(10, MOST));
        for (int bell : NO_BELLS) {
            all(BAD, x.held(bell, 0), x.held(bell, 20));
        }
    }

    @Sentence(in = "Promise 18", says = "A TRADE (ab: 10 times the one and the other, unlike). VOID: BAD; STATE: not of one QUEUE; NOT.")
    static void trade() {
        TwentyPushes x = by("1", 10, 4, 4);
        x.child(40, 1);
        x.child(40, 3);
        x.child(40, 3);
        is(x.trade(20, 1), -10);
        is(x.trade(20, 10), 10);
        all(NOT, x.trade(19, 1), x.trade(19, 10));
        all(STATE, x.trade(20, 2), x.trade(20, 20), x.trade(20, 3), x.trade(20, 30), x.trade(20, 34));
        all(VOID, x.trade(20, 0), x.trade(20, 11), x.trade(20, 22), x.trade(20, 33));
        all(VOID, x.trade(20, 5), x.trade(20, 50), x.trade(20, 9), x.trade(20, 90), x.trade(20, 101), x.trade(20, 100), x.trade(20, -1),
                x.trade(20, -10), x.trade(20, LEAST), x.trade(20, MOST));
        for (int bell : NO_BELLS) {
            all(VOID, x.trade(bell, 1), x.trade(bell, 2));
        }
    }

    @Sentence(in = "Promise 19", says = "DRAWN: how often a CHILD (0 on), all TURNS (-1). BAD.")
    static void drawn() {
        TwentyPushes x = by("1", 10, 4, 4);
        is(x.drawn(LEAST, 10, 30, -1), 30);
        is(x.drawn(MOST, 10, 30, 0), 20);
        is(x.drawn(0, 10, 30, 1), 10);
        all(BAD, x.drawn(0, 1, 30, -2), x.drawn(0, 1, 30, 2), x.drawn(0, 1, 30, LEAST), x.drawn(0, 1, 30, MOST));
        all(BAD, x.drawn(0, 0, 30, 0), x.drawn(0, 11, 30, 0), x.drawn(0, LEAST, 30, 0), x.drawn(0, MOST, 30, 0));
        for (int bell : NO_BELLS) {
            all(BAD, x.drawn(0, 1, bell, -1), x.drawn(0, 1, bell, 0));
        }
    }
}
