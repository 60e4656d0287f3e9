/** Terms 2: TURNS in thought, AFTERNOONS, JOIN, EACH, ORDER. */
final class AfternoonBounds extends Bounds {
    @Sentence(in = "Terms 2", says = "counted by another one (9: as it is), q waiting: ROUNDS, seconds, the greatest HEIGHT, what was COUNTED.")
    static void countedByNobody() {
        TwentyPushes x = by("q+1", 7, 1, 4);
        x.mend(0, 3, 2);
        x.mend(1, 3, 2);
        long[] asItIs = {7, 21, 9, 7};
        long[] quickly = {6, 18, 9, 7};
        for (int what = 0; what <= 3; what++) {
            is(x.turn(9, 2, what), asItIs[what]);
            is(x.turn(1, 2, what), quickly[what]);
        }
    }

    @Sentence(in = "Terms 2", says = "LONGEST: the CAP (0 .. 9) by which such a TURN lasts longest (of like ones the least).")
    static void longest() {
        TwentyPushes x = by("20-h", 9, 1);
        is(x.longest(9, 0), 0);
        enact(x, "h");
        is(x.longest(9, 0), 9);
        enact(x, "5");
        is(x.longest(9, 0), 0);
        enact(x, "h=4|h=6?9;1");
        is(x.longest(9, 0), 4);
        enact(x, "h>4?9;1");
        is(x.longest(9, 0), 5);
        x.mend(0, 8, 2);
        enact(x, "h");
        is(x.longest(9, 0), 4);
    }

    /** 1 counts slowly, so that there are 17 ROUNDS, 2 as it is, so that there are 12. */
    @Sentence(in = "Terms 2", says = "by which such a TURN lasts longest")
    static void longestByWhoCounts() {
        TwentyPushes x = by("r>13&h=1?20;h=2?2;1", 12, 4, 4, 4);
        x.mend(1, 3, 1);
        all(1, x.longest(1, 0), x.longest(21, 0), x.longest(101, 0), x.longest(221, 8));
        all(2, x.longest(2, 0), x.longest(9, 0), x.longest(20, 0), x.longest(29, 0), x.longest(12, 0), x.longest(210, 8));
    }

    @Sentence(in = "Terms 2", says = "COUNTER: of all other CHILDREN (and 9) that by whom it lasts longest (of like ones the least).")
    static void counter() {
        TwentyPushes x = by("1", 20, 4);
        is(x.counter(9, 0), 9);
        x.child(40, 0);
        x.child(40, 0);
        is(x.counter(9, 0), 1);
        is(x.counter(19, 0), 0);
        x.mend(1, 3, 2);
        x.mend(2, 3, 2);
        is(x.counter(9, 0), 9);
        x.mend(2, 3, 1);
        is(x.counter(9, 0), 2);
        is(x.counter(29, 0), 0);
        x.mend(1, 3, 1);
        is(x.counter(9, 0), 1);
        x.mend(0, 3, 1);
        is(x.counter(9, 0), 1);
        is(x.counter(29, 0), 0);
    }

    @Sentence(in = "Terms 2", says = "AN AFTERNOON to the BELL (1 .. 3600 seconds)")
    static void bell() {
        TwentyPushes x = by("1", 1, 4);
        is(x.afternoon(1, 0, 0), 1);
        is(x.afternoon(3600, 0, 0), 3600);
        is(x.been(3600, 0), 3600);
        all(BAD, x.afternoon(0, 0, 0), x.afternoon(3601, 0, 0), x.afternoon(-1, 0, 0), x.afternoon(LEAST, 0, 0), x.afternoon(MOST, 0, 0));
    }

    @Sentence(in = "Terms 2", says = "each SWING by itself: its QUEUE are CHILDREN of it by numbers")
    static void queueByNumbers() {
        TwentyPushes x = by("1", 10, 4, 4, 4, 4);
        x.mend(2, 5, 1);
        x.mend(1, 5, 3);
        x.mend(0, 5, 1);
        x.mend(1, 5, 0);
        // 1 and 3 on SWING 0, 0 and 2 on SWING 1, whoever came first
        long[] waits = {0, 0, 10, 10};
        for (int child = 0; child < 4; child++) {
            is(x.afternoon(20, child, 1), waits[child]);
            is(x.afternoon(20, child, 0), 1);
        }
        x.mend(0, 5, 0);
        x.mend(0, 5, 1);
        is(x.afternoon(20, 0, 1), 0);
    }

    @Sentence(in = "Terms 2", says = "counted by the next one; q all others in it")
    static void countedByTheNext() {
        TwentyPushes x = by("q+1", 8, 4, 4, 4);
        x.child(40, 1);
        x.mend(1, 3, 1);
        x.mend(2, 3, 2);
        // as 1 counts slowly, 2 quickly and 0 as it is: 11, 7 and 8 ROUNDS, of 3 seconds each
        is(x.afternoon(78, 0, 2), 11);
        is(x.afternoon(78, 1, 2), 7);
        is(x.afternoon(78, 2, 2), 8);
        is(x.afternoon(78, 1, 1), 33);
        is(x.afternoon(78, 2, 1), 54);
        is(x.been(78, 0), 78);
        is(x.been(8, 1), 8);
    }

    @Sentence(in = "Terms 2", says = "goes to the end; and so on")
    static void goesToTheEnd() {
        TwentyPushes x = by("w", 1, 1, 2, 3);
        long[] ends = {1, 3, 6, 7, 9, 12, 13};
        for (int k = 0; k < ends.length; k++) {
            is(x.been((int) ends[k], 0), ends[k]);
            for (int child = 0; child < 3; child++) {
                is(x.afternoon((int) ends[k], child, 0), (k + 3 - child) / 3);
            }
        }
    }

    @Sentence(in = "Terms 2", says = "a TURN that would not be over by the BELL is none (nor any behind it)")
    static void notOverByTheBell() {
        TwentyPushes x = by("w", 1, 2, 9, 1);
        is(x.afternoon(1, 0, 0), 0);
        is(x.afternoon(2, 0, 0), 1);
        is(x.afternoon(10, 1, 0), 0);
        is(x.afternoon(10, 2, 0), 0);
        is(x.been(10, 0), 2);
        is(x.afternoon(11, 1, 0), 1);
        is(x.afternoon(11, 2, 0), 0);
        is(x.been(11, 0), 11);
        is(x.afternoon(12, 2, 0), 1);
        x.child(10, 1);
        is(x.afternoon(1, 3, 0), 1);
    }

    @Sentence(in = "Terms 2", says = "WAITED: how many seconds it waited till its first TURN began (NOT: it had none)")
    static void waited() {
        TwentyPushes x = by("w", 1, 2, 3);
        x.child(10, 3);
        is(x.afternoon(1, 0, 1), NOT);
        is(x.afternoon(2, 0, 1), 0);
        is(x.afternoon(4, 1, 1), NOT);
        is(x.afternoon(5, 1, 1), 2);
        is(x.afternoon(3600, 0, 1), 0);
        is(x.afternoon(3600, 1, 1), 2);
        is(x.afternoon(3600, 2, 1), NOT);
    }

    @Sentence(in = "Terms 2", says = "who has NOT BEEN (bits; in no QUEUE, too)")
    static void notBeen() {
        TwentyPushes x = new TwentyPushes();
        is(x.been(3600, -1), 0);
        x = by("w", 1, 2, 3);
        x.child(10, 3);
        x.child(40, 1);
        is(x.been(1, -1), 1 + 2 + 4 + 8);
        is(x.been(2, -1), 2 + 4 + 8);
        is(x.been(4, -1), 2 + 4);
        is(x.been(5, -1), 4);
        is(x.been(3600, -1), 4);
        x.mend(2, 5, 2);
        is(x.been(3600, -1), 0);
        for (int k = 4; k < 9; k++) {
            x.child(90, 3);
        }
        is(x.been(3600, -1), 16 + 32 + 64 + 128 + 256);
    }

    @Sentence(in = "Terms 2", says = "all PUSHES really had (ROUNDS) by a CHILD")
    static void reallyHad() {
        TwentyPushes x = by("1", 10, 4, 4);
        x.child(40, 3);
        x.mend(1, 3, 2);
        is(x.afternoon(7, 0, 2), 0);
        is(x.afternoon(8, 0, 2), 8);
        is(x.afternoon(26, 0, 2), 16);
        is(x.afternoon(26, 1, 2), 10);
        is(x.afternoon(3600, 2, 2), 0);
    }

    @Sentence(in = "Terms 2", says = "the last TURN's end on a SWING (0: none)")
    static void lastEnd() {
        TwentyPushes x = by("w", 1, 2, 3);
        x.child(90, 2);
        is(x.been(1, 0), 0);
        is(x.been(2, 0), 2);
        is(x.been(4, 0), 2);
        is(x.been(5, 0), 5);
        is(x.been(3600, 1), 0);
        is(x.been(8, 2), 0);
        is(x.been(9, 2), 9);
        is(x.been(3599, 2), 3591);
    }

    @Sentence(in = "Terms 2", says = "of all SWINGS that whose QUEUE a CHILD (from now on of that one) is on soonest by (of like ones the least)")
    static void joinSoonest() {
        TwentyPushes x = by("1", 10, 4);
        is(x.join(100, 0, 0), 0);
        x.mend(0, 5, 2);
        is(x.join(100, 0, 0), 0);
        x.child(40, 0);
        is(x.join(100, 0, 0), 0);
        x.child(40, 1);
        is(x.join(100, 0, 0), 0);
        is(x.join(100, 2, 0), 1);
        is(x.join(100, 2, 1), 0);
        x.child(40, 3);
        x.mend(1, 3, 2);
        is(x.join(100, 3, 0), 0);
        is(x.join(100, 3, 1), 10);
        x.mend(3, 3, 2);
        is(x.join(100, 3, 1), 8);
        enact(x, "q+1");
        is(x.join(100, 3, 1), 16);
        is(x.of(3, 5), 3);
    }

    @Sentence(in = "Terms 2", says = "after how many seconds; NOT: by none to the BELL.")
    static void joinNone() {
        TwentyPushes x = by("w", 1, 2, 5);
        x.mend(0, 5, 1);
        x.child(30, 2);
        x.child(10, 0);
        // 6, 2 and 3 seconds are ahead of it, and it needs one
        x.child(10, 3);
        is(x.join(3, 4, 0), 1);
        is(x.join(3, 4, 1), 2);
        all(NOT, x.join(2, 4, 0), x.join(2, 4, 1), x.join(1, 4, 0));
        x.mend(0, 0, 4);
        is(x.join(4, 4, 0), 2);
        is(x.join(4, 4, 1), 3);
        all(NOT, x.join(3, 4, 0), x.join(3, 4, 1));
    }

    @Sentence(in = "Terms 2", says = "EACH: the greatest PUSHES (1 .. 30) by which all that are in a QUEUE have been by the BELL; NOT.")
    static void each() {
        TwentyPushes x = by("1", 7);
        is(x.each(1), 30);
        x.child(40, 3);
        is(x.each(1), 30);
        x.child(40, 1);
        is(x.each(1), 1);
        is(x.each(29), 29);
        is(x.each(30), 30);
        is(x.each(3600), 30);
        x.child(40, 1);
        is(x.each(1), NOT);
        is(x.each(2), 1);
        is(x.each(59), 29);
        is(x.each(60), 30);
        x.child(40, 0);
        x.child(40, 2);
        is(x.each(60), 30);
        x.child(40, 2);
        x.child(40, 2);
        is(x.each(60), 20);
        is(x.each(2), NOT);
        is(x.of(0, 8), 7);
    }

    /** By tens one PUSH needs ten ROUNDS; none at all would need but one. */
    @Sentence(in = "Terms 2", says = "EACH: the greatest PUSHES (1 .. 30)")
    static void eachByTens() {
        TwentyPushes x = by("1", 7, 4, 4);
        x.mend(0, 3, 3);
        x.mend(1, 3, 3);
        is(x.each(20), 10);
        is(x.each(39), 10);
        is(x.each(40), 20);
        is(x.each(60), 30);
        is(x.each(19), NOT);
        is(x.each(2), NOT);
    }

    @Sentence(in = "Terms 2", says = "ORDER: of all orders of one SWING's QUEUE (5 at most, else STATE)")
    static void orderOfFive() {
        TwentyPushes x = by("w", 1, 9, 8, 7, 6, 5);
        is(x.order(0, -1), 5 * 4 + 6 * 3 + 7 * 2 + 8);
        for (int place = 0; place < 5; place++) {
            is(x.order(0, place), 4 - place);
        }
        x.child(40, 1);
        x.child(40, 3);
        is(x.order(0, 0), 4);
        x.child(40, 0);
        all(STATE, x.order(0, -1), x.order(0, 0), x.order(0, 4), x.order(0, 5));
        is(x.order(1, 0), 5);
        x.mend(7, 5, 1);
        is(x.order(0, 0), 4);
    }

    @Sentence(in = "Terms 2", says = "that by which what all wait for their first TURNS, without a BELL, is least together: these seconds")
    static void orderWithoutABell() {
        TwentyPushes x = by("20", 30, 4, 4, 4, 4, 4);
        is(x.order(0, -1), 600 * (1 + 2 + 3 + 4));
        is(x.order(1, -1), 0);
        x.child(40, 1);
        is(x.order(1, -1), 0);
        TwentyPushes y = by("q+1", 10, 4, 4, 4);
        y.mend(0, 3, 2);
        is(y.order(0, -1), 24 + 24 + 30);
    }

    @Sentence(in = "Terms 2", says = "the CHILD at a place (of like ones the first by numbers)")
    static void orderOfLikeOnes() {
        TwentyPushes x = by("w", 1, 4, 4, 4, 4, 4);
        for (int place = 0; place < 5; place++) {
            is(x.order(0, place), place);
        }
        x.mend(1, 0, 3);
        x.mend(3, 0, 3);
        long[] wants = {1, 3, 0, 2, 4};
        for (int place = 0; place < 5; place++) {
            is(x.order(0, place), wants[place]);
        }
    }
}
