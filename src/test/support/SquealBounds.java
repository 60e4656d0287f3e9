import java.util.Arrays;

/** Terms 3: HELD, SQUEALS, UNFAIR, TRADE, DRAWN. */
final class SquealBounds extends Bounds {
    /** Who left it does not wait in it: q is one less till it is back. */
    @Sentence(in = "Terms 3", says = "HELD: in an AFTERNOON one CHILD leaves its QUEUE")
    static void heldLeaves() {
        TwentyPushes x = by("q+1", 1, 4, 4, 4);
        is(x.held(3 + 2 + 2 + 2 + 3, 3), 2);
        is(x.held(3 + 2 + 2 + 2 + 2, 3), 1);
        is(x.held(3 + 2 + 2 + 2 + 3 + 3 + 3 + 3, 3), 3);
        is(x.held(3 + 2 + 2 + 2 + 3 + 3 + 3 + 2, 3), 2);
        is(x.held(3 + 3, 15), 1);
        is(x.held(3 + 2, 15), 0);
        TwentyPushes y = by("q+1", 1, 4, 4);
        is(y.held(2 + 1 + 1 + 2, 2), 2);
        is(y.held(2 + 1 + 1 + 1, 2), 1);
    }

    @Sentence(in = "Terms 3", says = "behind its first TURN for m TURNS of others on that SWING (0 .. 9)")
    static void heldForSoMany() {
        TwentyPushes x = by("1", 10, 4, 4, 4);
        x.child(40, 1);
        x.child(40, 1);
        int[] soonest = {40, 40, 40, 50, 60, 70, 80, 90, 100, 110};
        for (int m = 0; m <= 9; m++) {
            is(x.held(soonest[m], m), 2);
            is(x.held(soonest[m] - 1, m), 1);
        }
        is(x.held(9, 5), 0);
        is(x.held(10, 5), 1);
    }

    @Sentence(in = "Terms 3", says = "its place is HELD for it (it goes to the end as ever, but is passed over, its place kept, till then)")
    static void heldPlace() {
        TwentyPushes x = by("1", 10, 4, 4, 4);
        // 0 1 2, 1 as 0 is away, 0 again, and then as ever 2 1 0
        is(x.held(50, 3), 2);
        is(x.held(79, 3), 2);
        is(x.held(80, 3), 3);
        // 0 1 2 0, 2 as 1 is away, and 1 again
        is(x.held(59, 13), 1);
        is(x.held(60, 13), 2);
        // passed over it does not count either, quickly as it would; back again it does, for 1
        TwentyPushes y = by("1", 10, 4, 4, 4);
        y.mend(0, 3, 2);
        is(y.held(50, 3), 2);
        is(y.held(49, 3), 1);
        is(y.held(50 + 10 + 8 + 10, 3), 3);
        is(y.held(50 + 10 + 8 + 9, 3), 2);
        // alone none of others come, so it is away for good
        x.child(40, 1);
        is(x.held(3600, 31), 1);
        is(x.held(3600, 30), 360);
        TwentyPushes z = by("1", 1, 4);
        is(z.held(3600, 0), 3600);
        is(z.held(3600, 1), 1);
    }

    /** 0 counts as it is, 1 slowly, 2 quickly: 8, 11, 7 ROUNDS. */
    @Sentence(in = "Terms 3", says = "is passed over, its place kept")
    static void heldCountedByTheNext() {
        TwentyPushes x = by("1", 8, 4, 4, 4);
        x.mend(1, 3, 1);
        x.mend(2, 3, 2);
        // 0 by 1, 1 by 2, 2 by 1, 1 by 2, 0 by 2, 2 by 1, 1 by 0, 0 by 2
        int[] ends = {11, 18, 29, 36, 43, 54, 62, 69};
        int[] been = {1, 1, 1, 1, 2, 2, 2, 3};
        for (int k = 0; k < ends.length; k++) {
            is(x.held(ends[k], 3), been[k]);
            is(x.held(ends[k] - 1, 3), k == 0 ? 0 : been[k - 1]);
        }
    }

    @Sentence(in = "Terms 1", says = "nobody waits: as it is")
    static void heldAlone() {
        TwentyPushes x = by("1", 8, 4, 4);
        x.mend(1, 3, 2);
        is(x.held(7, 0), 1);
        is(x.held(6, 0), 0);
        x.mend(1, 5, 1);
        is(x.held(8, 0), 1);
        is(x.held(7, 0), 0);
    }

    @Sentence(in = "Terms 3", says = "the first that is not so (one that lacks, or is too much, too); NOT.")
    static void judged() {
        TwentyPushes x = by("r+1", 3, 4);
        lay(x, 0, 1, 2, 3);
        is(x.judge(0, 9, 0), NOT);
        int[][] rows = {{}, {1}, {1, 2}, {1, 2, 3, 4}, {1, 2, 3, 4, 5}, {9, 2, 3}, {1, 9, 3}, {1, 2, 9}, {9, 9}, {1, 9}, {1, 2, 9, 9}, {0}, {-1}};
        int[] wants = {0, 1, 2, 3, 3, 0, 1, 2, 0, 1, 2, 0, 0};
        for (int k = 0; k < rows.length; k++) {
            lay(x, 0, rows[k]);
            is(x.judge(0, 9, 0), wants[k]);
        }
        TwentyPushes y = by("1", 30, 4, 4);
        y.mend(1, 3, 1);
        y.row(0, 0, 60);
        for (int k = 0; k < 60; k++) {
            y.put(0, k, 1);
        }
        is(y.judge(0, 1, 0), 44);
        // what is too much is not so, though a longer TURN had it
        y.mend(0, 8, 3);
        lay(y, 0, 1, 1, 1, 1, 1);
        is(y.judge(0, 9, 0), 3);
        is(y.who(0, 9, 0), 0);
        is(y.sure(0, 19, 0), 0);
    }

    /** SWINGS of LENGTH 1, 2, 3; 0 counts as it is, 1 quickly, 2 slowly: 5, 4, 7 ROUNDS. */
    @Sentence(in = "Terms 3", says = "JUDGED of a TURN (SWING, CHILD, who counts, q)")
    static void judgedOfThatTurn() {
        TwentyPushes x = by("s", 5, 4, 4, 4);
        x.mend(1, 3, 2);
        x.mend(2, 3, 1);
        int[] rounds = {5, 4, 7, 5};
        for (int swing = 0; swing <= 2; swing++) {
            x.mend(swing, 6, swing + 1);
            for (int counts = 0; counts <= 3; counts++) {
                int[] row = new int[rounds[counts]];
                Arrays.fill(row, swing + 1);
                lay(x, 0, row);
                for (int child = 0; child <= 2; child++) {
                    if (child != counts) {
                        int sc = 100 * swing + 10 * child + (counts < 3 ? counts : 9);
                        is(x.judge(0, sc, 0), NOT);
                        is(x.judge(0, (sc + 100) % 300, 0), 0);
                        is(x.sure(0, sc, 0), rounds[counts] == 5 ? child == 0 ? 512 : 512 + 1 : 1 << counts);
                    }
                }
                int all = counts < 3 ? 7 - (1 << counts) : 7;
                is(x.who(0, 10 * swing + (counts < 3 ? counts : 9), 0), all);
                is(x.who(0, 10 * ((swing + 1) % 3) + (counts < 3 ? counts : 9), 0), 0);
            }
        }
    }

    @Sentence(in = "Terms 3", says = "WHO: which CHILDREN (bits) may have had that TURN (by who counts as told), on a SWING")
    static void who() {
        TwentyPushes x = by("w+s", 1, 1, 2, 1, 2, 1, 2, 1, 2, 1);
        x.mend(2, 6, 5);
        lay(x, 0, 7);
        is(x.who(0, 9, 0), 1 + 4 + 16 + 64 + 256);
        is(x.who(0, 0, 0), 4 + 16 + 64 + 256);
        is(x.who(0, 8, 0), 1 + 4 + 16 + 64);
        is(x.who(0, 29, 0), 2 + 8 + 32 + 128);
        lay(x, 0, 9);
        is(x.who(0, 9, 0), 0);
        lay(x, 0);
        is(x.who(0, 9, 0), 0);
        lay(x, 0, 7, 7);
        is(x.who(0, 9, 0), 0);
        x.mend(0, 8, 3);
        x.mend(8, 3, 2);
        x.mend(8, 4, 2);
        lay(x, 0, 7, 7, 7);
        is(x.who(0, 8, 0), 1 + 16 + 64);
        lay(x, 0, 7, 7, 7, 7);
        is(x.who(0, 8, 0), 4);
    }

    @Sentence(in = "Terms 3", says = "SURE COUNT: which CHILDREN (bits; 512: as it is) may have counted it for a told CHILD.")
    static void sure() {
        TwentyPushes x = by("1", 3, 4, 4, 4, 4, 4, 4, 4, 4, 4);
        lay(x, 0, 1, 1, 1);
        is(x.sure(0, 9, 0), 512 + 256 + 128 + 64 + 32 + 16 + 8 + 4 + 2);
        is(x.sure(0, 89, 0), 512 + 128 + 64 + 32 + 16 + 8 + 4 + 2 + 1);
        x.mend(8, 3, 1);
        x.mend(7, 3, 3);
        is(x.sure(0, 9, 0), 512 + 64 + 32 + 16 + 8 + 4 + 2);
        lay(x, 0, 1, 1, 1, 1);
        is(x.sure(0, 9, 0), 256);
        is(x.sure(0, 89, 0), 0);
        lay(x, 0);
        is(x.sure(0, 9, 0), 0);
    }

    @Sentence(in = "Terms 3", says = "less PUSHES (below 0, too)")
    static void unfair() {
        TwentyPushes x = by("1", 20, 4, 4);
        is(x.unfair(1, 0), 0);
        x.mend(1, 3, 1);
        is(x.unfair(1, 0), 9);
        x.mend(1, 3, 2);
        is(x.unfair(1, 0), -4);
        x.mend(0, 9, 1);
        x.mend(0, 8, 30);
        is(x.unfair(9, 0), -29);
    }

    @Sentence(in = "Terms 3", says = "two CHILDREN of one QUEUE change places in it (AFTERNOON as by changed numbers)")
    static void tradePlaces() {
        TwentyPushes x = by("1", 20, 4, 4, 4);
        x.mend(2, 3, 1);
        // 2 counts slowly: for 1 as they stand, for 0 if 1 and 2 change places
        is(x.trade(3600, 10), 20);
        is(x.trade(3600, 1), -20);
        is(x.trade(3600, 12), 20 - (29 + 20));
        is(x.trade(3600, 21), (20 + 29) - 29);
        is(x.trade(3600, 20), 20 + 29);
        long[] waits = {0, 20, 49};
        for (int child = 0; child < 3; child++) {
            is(x.afternoon(3600, child, 1), waits[child]);
        }
    }

    @Sentence(in = "Terms 3", says = "how much sooner (below 0: later) the first one's first TURN begins")
    static void tradeSooner() {
        TwentyPushes x = by("w", 1, 3, 1, 2);
        is(x.trade(100, 20), 4);
        is(x.trade(100, 2), -3);
        is(x.trade(100, 10), 3);
        is(x.trade(100, 1), -1);
        x.mend(2, 0, 3);
        is(x.trade(100, 2), -4);
        is(x.trade(100, 20), 4);
        is(x.trade(100, 12), -3);
        is(x.trade(100, 21), 1 + 3 - 3);
    }

    @Sentence(in = "Terms 3", says = "NOT: it or they have none.")
    static void tradeNone() {
        TwentyPushes x = by("w", 1, 3, 1, 2);
        is(x.trade(6, 20), 4);
        is(x.trade(5, 20), NOT);
        is(x.trade(6, 2), -3);
        is(x.trade(5, 2), NOT);
        is(x.trade(4, 10), 3);
        is(x.trade(3, 10), NOT);
        is(x.trade(1, 1), NOT);
    }

    @Sentence(in = "Terms 3", says = "DRAWN: n AFTERNOONS (1 .. 10) by a SEED to the BELL")
    static void drawnSoOften() {
        TwentyPushes x = by("1", 10, 4);
        for (int n = 1; n <= 10; n++) {
            is(x.drawn(0, n, 30, -1), 3 * n);
            is(x.drawn(0, n, 29, -1), 2 * n);
        }
        all(BAD, x.drawn(0, 0, 30, -1), x.drawn(0, 11, 30, -1), x.drawn(0, -1, 30, -1), x.drawn(0, LEAST, 30, -1), x.drawn(0, MOST, 30, -1));
    }

    /** How many of so many draws by a SEED are not below TIRED. */
    private static int fresh(int seed, int draws, int tired) {
        long z = seed;
        int fresh = 0;
        for (int k = 0; k < draws; k++) {
            z = (int) (z * 1103515245L + 12345L);
            fresh += (z & 0xffffffffL) / 256 % 12 >= tired ? 1 : 0;
        }
        return fresh;
    }

    /** How often the first of two has been by a SEED, in n AFTERNOONS to a BELL, if a TURN lasts a second. */
    private static int ofTheFirst(int seed, int n, int bell, int tired) {
        int z = seed;
        int often = 0;
        for (int k = 0; k < n; k++) {
            int head = 0;
            for (int time = 0; time <= bell; head = 1 - head) {
                z = (int) (z * 1103515245L + 12345L);
                if ((z & 0xffffffffL) / 256 % 12 >= tired) {
                    time++;
                    often += head == 0 && time <= bell ? 1 : 0;
                }
            }
        }
        return often;
    }

    @Sentence(in = "Terms 3", says = "ahead of each TURN z = z * 1103515245 + 12345 (an int; SEED at first)")
    static void drawnBySeed() {
        TwentyPushes x = by("1", 1, 4, 4);
        x.mend(0, 10, 6);
        int[] seeds = {0, 1, -1, 7, LEAST, MOST, LEAST + 1, 1 << 30, -12345, 999999937};
        for (int seed : seeds) {
            is(x.drawn(seed, 1, 1, 0), ofTheFirst(seed, 1, 1, 6));
            is(x.drawn(seed, 1, 60, 0), ofTheFirst(seed, 1, 60, 6));
            is(x.drawn(seed, 10, 7, 0), ofTheFirst(seed, 10, 7, 6));
            is(x.drawn(seed, 10, 7, -1), 70);
        }
    }

    @Sentence(in = "Terms 3", says = "if (z >>> 8) % 12 is below TIRED (0 .. 12; 0 at first)")
    static void tired() {
        TwentyPushes x = by("1", 1, 4, 4);
        is(x.of(0, 10), 0);
        is(x.drawn(5, 1, 3600, -1), 3600);
        for (int tired = 0; tired <= 12; tired++) {
            x.mend(0, 10, tired);
            is(x.drawn(5, 1, 3600, -1), fresh(5, 3600, tired));
        }
        is(x.drawn(5, 10, 3600, -1), 0);
        all(BAD, x.mend(0, 10, -1), x.mend(0, 10, 13));
        range(new TwentyPushes(), 0, 10, 0, 0, 12);
    }

    /** By SEED 0 the draws are 0 6 3 4 6 4 6 3 9 3 11 8. */
    @Sentence(in = "Terms 3", says = "the one at the head goes to the end without a TURN (with it no time; if it is alone, it has its TURN)")
    static void tiredAtTheHead() {
        TwentyPushes x = by("1", 10, 4, 4);
        x.mend(0, 10, 1);
        // 0 is tired, then 1 0 1
        is(x.drawn(0, 1, 30, 0), 1);
        is(x.drawn(0, 1, 30, 1), 2);
        is(x.drawn(0, 1, 30, -1), 3);
        is(x.drawn(0, 1, 20, 0), 1);
        is(x.drawn(0, 1, 20, 1), 1);
        is(x.drawn(0, 1, 10, 0), 0);
        is(x.drawn(0, 1, 10, 1), 1);
        TwentyPushes y = by("1", 10, 4);
        y.mend(0, 10, 12);
        is(y.drawn(0, 1, 30, 0), 3);
        is(y.drawn(0, 10, 30, 0), 30);
        y.child(40, 0);
        is(y.drawn(0, 10, 30, 0), 0);
        y.mend(1, 5, 1);
        is(y.drawn(0, 10, 30, -1), 60);
    }

    /** By SEED 0 the draws are 0 6 3 4 6 4 6 3 9 3 11 8. */
    @Sentence(in = "Terms 3", says = "SWINGS by numbers")
    static void swingsByNumbers() {
        TwentyPushes x = by("1", 1, 4, 4);
        x.child(40, 1);
        x.child(40, 1);
        x.mend(0, 10, 5);
        // 0 6 3 4 6: 0 is tired, 1 is on, 0 and 1 are tired, 0 in vain; 4 6 3 9: 2 is tired, 3 is on, 2 is tired, 3 in vain
        is(x.drawn(0, 1, 1, 0), 0);
        is(x.drawn(0, 1, 1, 1), 1);
        is(x.drawn(0, 1, 1, 2), 0);
        is(x.drawn(0, 1, 1, 3), 1);
        x.mend(0, 10, 4);
        // 0 6 3 4: 0 is tired, 1 is on, 0 is tired, 1 in vain; 6 4: 2 is on, 3 in vain
        is(x.drawn(0, 1, 1, 0), 0);
        is(x.drawn(0, 1, 1, 1), 1);
        is(x.drawn(0, 1, 1, 2), 1);
        is(x.drawn(0, 1, 1, 3), 0);
    }

    @Sentence(in = "Terms 3", says = "each TURN as ever (3600 TURNS at most)")
    static void drawnAsEver() {
        TwentyPushes x = by("w", 1, 2, 3);
        x.child(40, 1);
        x.mend(1, 3, 0);
        is(x.drawn(9, 1, 10, 0), 2);
        is(x.drawn(9, 1, 10, 1), 2);
        is(x.drawn(9, 1, 10, 2), 2);
        is(x.drawn(9, 1, 9, 1), 1);
        is(x.drawn(9, 1, 7, 2), 1);
        TwentyPushes y = by("1", 1, 4);
        is(y.drawn(9, 1, 3600, -1), 3600);
        is(y.drawn(9, 10, 3600, 0), 36000);
        y.child(40, 1);
        is(y.drawn(9, 1, 3600, 1), 3600);
        is(y.drawn(9, 1, 3600, -1), 7200);
        // those that are tired are among the 3600, else it would not end by TIRED 12
        y.mend(1, 5, 0);
        y.mend(0, 10, 12);
        is(y.drawn(9, 10, 3600, -1), 0);
        y.mend(0, 10, 11);
        is(y.drawn(9, 1, 3600, -1), fresh(9, 3600, 11));
    }

    @Sentence(in = "Terms 3", says = "how often a CHILD has been together; all TURNS")
    static void together() {
        TwentyPushes x = by("1", 10, 4, 4);
        x.child(40, 2);
        x.child(40, 3);
        long[] wants = {10 * 2, 10, 10 * 3, 0};
        for (int child = 0; child < 4; child++) {
            is(x.drawn(1, 10, 30, child), wants[child]);
        }
        is(x.drawn(1, 10, 30, -1), 60);
        is(x.drawn(1, 1, 9, -1), 0);
        is(new TwentyPushes().drawn(1, 10, 3600, -1), 0);
    }
}
