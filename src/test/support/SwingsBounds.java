/** Terms 1: SWINGS, CHILDREN, a ROUND and THE LAW. */
final class SwingsBounds extends Bounds {
    @Sentence(in = "Terms 1", says = "SWINGS 0 .. 2")
    static void threeSwings() {
        TwentyPushes x = with(1);
        for (int swing = 0; swing <= 2; swing++) {
            is(x.of(swing, 6), 6);
            is(x.turn(swing * 100 + 9, 0, 0), 20);
            is(x.order(swing, -1), 0);
        }
        all(BAD, x.of(-1, 6), x.of(3, 6), x.of(LEAST, 6), x.of(MOST, 6), x.turn(309, 0, 0), x.order(-1, -1), x.order(3, -1));
    }

    @Sentence(in = "Terms 1", says = "LENGTH (1 .. 9; 6 at first)")
    static void length() {
        for (int swing = 0; swing <= 2; swing++) {
            range(new TwentyPushes(), swing, 6, 6, 1, 9);
        }
    }

    @Sentence(in = "Terms 1", says = "CHILDREN 0 .. 8, as they come")
    static void nineChildren() {
        TwentyPushes x = new TwentyPushes();
        all(BAD, x.of(0, 0), x.of(-1, 0));
        for (int k = 0; k <= 8; k++) {
            is(x.child(41, 0), k);
            is(x.of(k, 0), 4);
            is(x.of(k + 1, 0), BAD);
        }
        is(x.child(41, 0), FULL);
        all(BAD, x.of(-1, 0), x.of(9, 0));
    }

    /** What it is at first is never seen: who comes tells its own. */
    /** As full as a QUEUE can be. */
    @Sentence(in = "Terms 1", says = "CHILDREN 0 .. 8, as they come")
    static void nineInOneQueue() {
        TwentyPushes x = by("w", 1, 1, 2, 3, 4, 5, 6, 7, 8, 9);
        is(x.been(45, 0), 45);
        is(x.been(45, -1), 0);
        is(x.been(44, -1), 256);
        is(x.afternoon(45, 8, 1), 36);
        is(x.afternoon(46, 0, 0), 2);
        is(x.join(3600, 8, 0), 1);
        is(x.join(3600, 0, 0), 0);
        is(x.each(1350), 30);
        is(x.each(1349), 29);
        is(x.each(45), 1);
        is(x.each(44), NOT);
        all(STATE, x.order(0, -1), x.order(0, 8));
        is(x.order(0, 9), BAD);
        is(x.trade(3600, 80), 36);
        is(x.trade(3600, 8), -44);
        is(x.trade(3600, 87), 8);
        is(x.trade(3600, 78), -9);
        is(x.drawn(1, 10, 45, 8), 10);
        is(x.drawn(1, 1, 45, -1), 9);
        TwentyPushes y = by("1", 10, 4, 4, 4, 4, 4, 4, 4, 4, 4);
        is(y.held(110, 9), 2);
        is(y.held(109, 9), 1);
        is(y.held(190, 89), 2);
        is(y.held(189, 89), 1);
        is(y.held(89, 89), 0);
        enact(y, "q+1");
        y.mend(0, 8, 1);
        // 9 as all are there, 8 as 0 is away
        is(y.held(9 + 3 * 8 + 5 * 9 + 9, 3), 2);
        is(y.held(9 + 3 * 8 + 5 * 9 + 8, 3), 1);
    }

    @Sentence(in = "Terms 1", says = "WEIGHT (1 .. 9; 4 at first)")
    static void weight() {
        TwentyPushes x = with(1);
        range(x, 0, 0, 4, 1, 9);
        all(BAD, x.child(1, 0), x.child(101, 0));
        is(x.child(11, 0), 1);
        is(x.child(91, 0), 2);
    }

    @Sentence(in = "Terms 1", says = "LEGS (0 .. 3; 1 at first)")
    static void legs() {
        TwentyPushes x = with(1);
        range(x, 0, 1, 1, 0, 3);
        is(x.child(44, 0), BAD);
        is(x.child(40, 0), 1);
        is(x.child(43, 0), 2);
    }

    @Sentence(in = "Terms 1", says = "CAP (0 .. 9: no higher does it go; 9 at first)")
    static void cap() {
        TwentyPushes x = by("1", 9, 1);
        range(x, 0, 2, 9, 0, 9);
        for (int cap = 0; cap <= 9; cap++) {
            x.mend(0, 2, cap);
            is(x.turn(9, 0, 2), cap);
        }
    }

    @Sentence(in = "Terms 1", says = "BENT (how it counts: 0 as it is, 1 slowly, 2 quickly, 3 by tens; 0 at first)")
    static void bent() {
        range(with(1), 0, 3, 0, 0, 3);
        TwentyPushes x = by("1", 7, 4, 4);
        int[] rounds = {7, 10, 6, 10};
        for (int bent = 0; bent <= 3; bent++) {
            x.mend(1, 3, bent);
            is(x.turn(1, 0, 0), rounds[bent]);
        }
    }

    @Sentence(in = "Terms 1", says = "FRIEND (a CHILD, or 9: none; 9 at first)")
    static void friend() {
        TwentyPushes x = with(8);
        is(x.of(3, 4), 9);
        is(x.mend(3, 4, 0), 9);
        is(x.mend(3, 4, 7), 0);
        all(BAD, x.mend(3, 4, 8), x.mend(3, 4, -1), x.mend(3, 4, 10), x.mend(3, 4, LEAST), x.mend(3, 4, MOST));
        is(x.child(41, 0), 8);
        is(x.mend(3, 4, 8), 7);
        is(x.mend(3, 4, 9), 8);
        is(x.of(3, 4), 9);
    }

    @Sentence(in = "Terms 1", says = "QUEUE (0 .. 2, or 3: in none; 0 at first)")
    static void queue() {
        TwentyPushes x = by("1", 10, 4);
        range(x, 0, 5, 0, 0, 3);
        for (int swing = 0; swing <= 2; swing++) {
            is(x.been(3600, swing), 0);
        }
        x.mend(0, 5, 2);
        is(x.been(3600, 2), 3600);
    }

    @Sentence(in = "Terms 1", says = "PUSHER (0 .. 3; 2 at first: how strongly all are pushed)")
    static void pusher() {
        TwentyPushes x = by("1", 1, 1, 2);
        range(x, 0, 7, 2, 0, 3);
        for (int pusher = 0; pusher <= 3; pusher++) {
            x.mend(0, 7, pusher);
            is(x.turn(9, 0, 2), pusher);
            is(x.turn(19, 0, 2), pusher);
        }
    }

    @Sentence(in = "Terms 1", says = "PUSHES (1 .. 30; 20 at first)")
    static void pushesOfATurn() {
        TwentyPushes x = with(1);
        is(x.turn(9, 0, 0), 20);
        range(x, 0, 8, 20, 1, 30);
        is(x.turn(9, 0, 0), 30);
        x.mend(0, 8, 1);
        is(x.turn(9, 0, 0), 1);
    }

    @Sentence(in = "Terms 1", says = "SECONDS (0: it does not matter; to 200; 0 at first)")
    static void seconds() {
        TwentyPushes x = by("10", 30, 4);
        is(x.turn(9, 0, 1), 300);
        range(x, 0, 9, 0, 0, 200);
        is(x.turn(9, 0, 1), 200);
        x.mend(0, 9, 1);
        is(x.turn(9, 0, 1), 10);
    }

    @Sentence(in = "Terms 1", says = "HEIGHT (0 ahead of the first one) becomes PUSHER and LEGS more")
    static void heightBegins() {
        TwentyPushes x = by("h", 1, 1);
        x.mend(0, 1, 3);
        is(x.turn(9, 0, 1), 5);
        x.mend(0, 7, 0);
        is(x.turn(9, 0, 1), 3);
        x.mend(0, 1, 1);
        x.mend(0, 8, 3);
        is(x.turn(9, 0, 1), 1 + 2 + 3);
        is(x.turn(9, 0, 1), 1 + 2 + 3);
        x.on(9);
        pushes(x, 3);
        x.on(9);
        is(x.push(), 1);
    }

    @Sentence(in = "Terms 1", says = "WEIGHT by 3 (cut) less")
    static void weightByThree() {
        TwentyPushes x = by("1", 1, 1);
        x.mend(0, 7, 3);
        int[] heights = {3, 3, 2, 2, 2, 1, 1, 1, 0};
        for (int weight = 1; weight <= 9; weight++) {
            x.mend(0, 0, weight);
            is(x.turn(9, 0, 2), heights[weight - 1]);
        }
    }

    @Sentence(in = "Terms 1", says = "0 at least")
    static void heightAtLeast() {
        TwentyPushes x = by("h+1", 9, 9);
        x.mend(0, 7, 0);
        is(x.turn(9, 0, 1), 9);
        x.on(9);
        is(x.push(), 1);
        x.mend(0, 7, 3);
        x.mend(0, 1, 1);
        is(x.push(), 2);
        x.mend(0, 7, 0);
        is(x.push(), 1);
    }

    @Sentence(in = "Terms 1", says = "CAP at most")
    static void heightAtMost() {
        TwentyPushes x = by("h+1", 3, 1);
        x.mend(0, 2, 3);
        is(x.turn(9, 0, 1), 3 + 4 + 4);
        x.mend(0, 2, 4);
        is(x.turn(9, 0, 1), 3 + 5 + 5);
        x.mend(0, 2, 0);
        is(x.turn(9, 0, 1), 1 + 1 + 1);
        x.mend(0, 2, 9);
        x.on(9);
        is(x.push(), 3);
        x.mend(0, 2, 1);
        is(x.push(), 2);
        x.mend(0, 2, 9);
        is(x.push(), 4);
    }

    @Sentence(in = "Terms 1", says = "A TURN ends behind the first ROUND by which PUSHES or more are COUNTED")
    static void endsByPushes() {
        TwentyPushes x = by("1", 4, 4, 4);
        x.mend(1, 3, 2);
        is(x.turn(1, 0, 0), 4);
        is(x.turn(1, 0, 3), 5);
        is(x.turn(9, 0, 0), 4);
        is(x.turn(9, 0, 3), 4);
        x.mend(0, 8, 5);
        is(x.turn(1, 0, 0), 4);
        x.mend(0, 8, 6);
        is(x.turn(1, 0, 0), 5);
        x.mend(0, 8, 2);
        x.mend(1, 3, 1);
        is(x.turn(1, 0, 0), 2);
    }

    @Sentence(in = "Terms 1", says = "or it has lasted SECONDS or more (0: not by that)")
    static void endsBySeconds() {
        TwentyPushes x = by("3", 9, 4);
        is(x.turn(9, 0, 0), 9);
        int[] rounds = {1, 1, 1, 2, 2, 2, 3};
        for (int seconds = 1; seconds <= 7; seconds++) {
            x.mend(0, 9, seconds);
            is(x.turn(9, 0, 0), rounds[seconds - 1]);
        }
        x.mend(0, 9, 28);
        is(x.turn(9, 0, 0), 9);
        x.mend(0, 9, 6);
        x.on(9);
        all(3, x.push(), x.push());
        is(x.push(), STATE);
    }

    /** No number that may be told needs more than 44: 44 are 30 slowly. */
    @Sentence(in = "Terms 1", says = "60 ROUNDS at most")
    static void endsByRounds() {
        TwentyPushes x = by("1", 30, 4, 4);
        int[] rounds = {30, 44, 24, 30};
        for (int bent = 0; bent <= 3; bent++) {
            x.mend(1, 3, bent);
            is(x.turn(1, 0, 0), rounds[bent]);
        }
        x.mend(1, 3, 1);
        x.on(1);
        pushes(x, 60);
        is(x.led(6), STATE);
        is(x.led(1), 44);
    }

    // ---- what is COUNTED

    /** What is COUNTED ahead of and behind each ROUND in deed, by that BENT. */
    private static void counts(int bent, long... wants) {
        TwentyPushes x = by("1", 30, 4, 4);
        x.mend(1, 3, bent);
        x.on(1);
        is(x.led(7), 0);
        for (long want : wants) {
            x.push();
            is(x.led(7), want);
        }
    }

    @Sentence(in = "Terms 1", says = "as it is n")
    static void countedAsItIs() {
        counts(0, 1, 2, 3, 4, 5, 6, 7, 8, 9, 10, 11, 12);
    }

    @Sentence(in = "Terms 1", says = "slowly n less n by 3 (cut)")
    static void countedSlowly() {
        counts(1, 1, 2, 2, 3, 4, 4, 5, 6, 6, 7, 8, 8);
    }

    @Sentence(in = "Terms 1", says = "quickly n and n by 4 (cut)")
    static void countedQuickly() {
        counts(2, 1, 2, 3, 5, 6, 7, 8, 10, 11, 12, 13, 15);
    }

    @Sentence(in = "Terms 1", says = "by tens n, if n leaves nothing by 10, else what was COUNTED behind the ROUND ahead (0 at first)")
    static void countedByTens() {
        counts(3, 0, 0, 0, 0, 0, 0, 0, 0, 0, 10, 10, 10, 10, 10, 10, 10, 10, 10, 10, 20, 20);
        TwentyPushes x = by("1", 11, 4, 4);
        x.mend(1, 3, 3);
        is(x.turn(1, 0, 0), 20);
        x.mend(0, 8, 10);
        is(x.turn(1, 0, 0), 10);
        x.mend(0, 8, 1);
        is(x.turn(1, 0, 0), 10);
        x.mend(0, 9, 9);
        is(x.turn(1, 0, 3), 0);
    }

    @Sentence(in = "Terms 1", says = "by its BENT (slowly, if the one on the SWING is its FRIEND)")
    static void countedForAFriend() {
        TwentyPushes x = by("1", 10, 4, 4, 4);
        x.mend(1, 3, 2);
        x.mend(1, 4, 0);
        is(x.turn(1, 0, 0), 14);
        is(x.turn(21, 0, 0), 8);
        is(x.turn(10, 0, 0), 10);
        is(x.turn(9, 0, 0), 10);
    }

    @Sentence(in = "Terms 1", says = "nobody waits: as it is")
    static void nobodyWaits() {
        TwentyPushes x = by("1", 10, 4);
        x.mend(0, 3, 2);
        is(x.afternoon(10, 0, 2), 10);
        is(x.afternoon(9, 0, 2), 0);
        x.child(40, 0);
        is(x.afternoon(18, 1, 2), 8);
        x.mend(1, 5, 1);
        is(x.afternoon(9, 0, 2), 0);
    }

    @Sentence(in = "Terms 1", says = "Without a text: LENGTH and HEIGHT by 3 (cut), and 1")
    static void withoutAText() {
        TwentyPushes x = new TwentyPushes();
        x.child(13, 0);
        x.mend(0, 7, 3);
        x.mend(0, 8, 1);
        int[] lasts = {7, 7, 7, 8, 8, 8, 9};
        for (int cap = 0; cap <= 6; cap++) {
            x.mend(0, 2, cap);
            is(x.turn(9, 0, 1), lasts[cap]);
        }
        x.mend(0, 8, 2);
        for (int cap = 7; cap <= 9; cap++) {
            x.mend(0, 2, cap);
            is(x.turn(9, 0, 1), 9 + (cap < 9 ? 9 : 10));
        }
        x.mend(0, 8, 1);
        x.mend(0, 6, 1);
        x.mend(1, 6, 9);
        is(x.turn(9, 0, 1), 4);
        is(x.turn(109, 0, 1), 12);
        is(enact(x, "1+"), -102);
        is(x.turn(9, 0, 1), 4);
    }
}
