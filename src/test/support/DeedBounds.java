/** Terms 4: a TURN in deed, LED, CHANGES, AN IMAGE. */
final class DeedBounds extends Bounds {
    @Sentence(in = "Terms 4", says = "ON a SWING a CHILD gets (if nobody is on one), counted by one (9: as it is)")
    static void on() {
        TwentyPushes x = by("1", 4, 4, 4);
        x.mend(0, 3, 2);
        x.mend(1, 3, 1);
        is(x.on(1), 0);
        // neither on this SWING nor on another one
        all(STATE, x.on(9), x.on(1), x.on(119), x.on(210));
        pushes(x, 4);
        is(x.led(7), 3);
        is(x.on(9), STATE);
        x.push();
        is(x.on(219), 1);
        pushes(x, 4);
        is(x.on(109), 0);
        x.off();
        is(x.on(10), 1);
        pushes(x, 3);
        is(x.on(9), STATE);
        is(x.led(7), 3);
        x.push();
        is(x.on(9), 0);
    }

    @Sentence(in = "Terms 4", says = "PUSH: one ROUND: its seconds; the TURN is over as told: what was COUNTED, OFF: it ends before.")
    static void push() {
        TwentyPushes x = by("r+1", 3, 4, 4);
        is(x.push(), STATE);
        is(x.off(), STATE);
        x.on(9);
        is(x.push(), 1);
        is(x.push(), 2);
        is(x.led(7), 2);
        is(x.push(), 3);
        is(x.push(), STATE);
        is(x.off(), STATE);
        is(x.led(0), 1);
        x.on(9);
        is(x.push(), 1);
        is(x.off(), 1);
        is(x.push(), STATE);
        is(x.off(), STATE);
        is(x.led(0), 1);
        // SECONDS end it as well, ahead of PUSHES
        x.mend(0, 9, 2);
        x.on(9);
        is(x.push(), 1);
        is(x.led(6), 1);
        is(x.push(), 2);
        is(x.led(6), STATE);
        is(x.led(0), 2);
    }

    @Sentence(in = "Terms 4", says = "LED: TURNS that were over, ROUNDS in deed, seconds in deed, OFFS")
    static void led() {
        TwentyPushes x = by("5", 2, 4);
        for (int what = 0; what <= 3; what++) {
            is(x.led(what), 0);
        }
        x.on(9);
        is(x.led(1), 0);
        x.off();
        x.on(9);
        x.push();
        x.off();
        x.on(9);
        pushes(x, 2);
        x.turn(9, 0, 0);
        x.afternoon(3600, 0, 0);
        long[] wants = {1, 3, 15, 2};
        for (int what = 0; what <= 3; what++) {
            is(x.led(what), wants[what]);
        }
        // what is refused is none
        x.push();
        x.off();
        for (int what = 0; what <= 3; what++) {
            is(x.led(what), wants[what]);
        }
    }

    @Sentence(in = "Terms 4", says = "the greatest HEIGHT ever, its CHILD (NOT; the first such).")
    static void greatestHeight() {
        TwentyPushes x = by("1", 2, 9, 1, 1);
        is(x.led(4), 0);
        is(x.led(5), NOT);
        x.on(9);
        pushes(x, 2);
        is(x.led(4), 0);
        is(x.led(5), NOT);
        x.on(29);
        pushes(x, 2);
        is(x.led(4), 4);
        is(x.led(5), 2);
        x.on(19);
        pushes(x, 2);
        is(x.led(4), 4);
        is(x.led(5), 2);
        x.mend(0, 7, 3);
        x.on(19);
        x.push();
        is(x.led(5), 2);
        x.push();
        is(x.led(4), 6);
        is(x.led(5), 1);
        // what was undone or is over stays the greatest
        x.undo();
        x.on(29);
        pushes(x, 2);
        is(x.led(4), 6);
        is(x.led(5), 1);
    }

    /** All that can be a CHANGE, once each. */
    private static void changeAll(TwentyPushes x) {
        x.mend(0, 0, 7);
        x.mend(0, 1, 2);
        x.mend(0, 2, 5);
        x.mend(0, 3, 3);
        x.mend(0, 4, 1);
        x.mend(0, 5, 2);
        x.mend(2, 6, 4);
        x.mend(0, 7, 1);
        x.mend(0, 8, 9);
        x.mend(0, 9, 30);
        x.mend(0, 10, 5);
    }

    private static void areAll(TwentyPushes x, long... wants) {
        for (int what = 0; what <= 10; what++) {
            is(x.of(what == 6 ? 2 : 0, what), wants[what]);
        }
    }

    @Sentence(in = "Terms 4", says = "CHANGES (LENGTH of SWINGS; all numbers of CHILDREN; PUSHER, PUSHES, SECONDS, TIRED; telling the same number is none)")
    static void whatIsAChange() {
        TwentyPushes x = with(2);
        changeAll(x);
        is(x.count(2), 11);
        changeAll(x);
        is(x.count(2), 11);
        areAll(x, 7, 2, 5, 3, 1, 2, 4, 1, 9, 30, 5);
        is(x.undo(), 10);
        // the same number once more does not keep it from being done again
        x.mend(0, 9, 30);
        is(x.redo(), 0);
        is(x.of(0, 10), 5);
        TwentyPushes y = with(1);
        y.mend(0, 0, 4);
        y.mend(0, 6, 6);
        y.mend(0, 8, 20);
        is(y.undo(), STATE);
    }

    @Sentence(in = "Terms 4", says = "can be UNDONE, the latest first")
    static void undone() {
        TwentyPushes x = with(2);
        is(x.undo(), STATE);
        changeAll(x);
        x.mend(0, 0, 8);
        is(x.undo(), 11);
        areAll(x, 7, 2, 5, 3, 1, 2, 4, 1, 9, 30, 5);
        for (int left = 10; left >= 0; left--) {
            is(x.undo(), left);
        }
        areAll(x, 4, 1, 9, 0, 9, 0, 6, 2, 20, 0, 0);
        is(x.undo(), STATE);
        areAll(x, 4, 1, 9, 0, 9, 0, 6, 2, 20, 0, 0);
    }

    @Sentence(in = "Terms 4", says = "and DONE AGAIN (as long as no other came behind)")
    static void doneAgain() {
        TwentyPushes x = with(2);
        is(x.redo(), STATE);
        changeAll(x);
        is(x.redo(), STATE);
        for (int k = 0; k < 11; k++) {
            x.undo();
        }
        for (int left = 10; left >= 0; left--) {
            is(x.redo(), left);
        }
        areAll(x, 7, 2, 5, 3, 1, 2, 4, 1, 9, 30, 5);
        is(x.redo(), STATE);
        x.undo();
        x.undo();
        is(x.redo(), 1);
        x.mend(1, 0, 9);
        is(x.redo(), STATE);
        is(x.of(0, 10), 0);
        is(x.undo(), 10);
        is(x.redo(), 0);
        is(x.of(1, 0), 9);
    }

    @Sentence(in = "Terms 4", says = "40 at most are kept")
    static void fortyAreKept() {
        TwentyPushes x = new TwentyPushes();
        for (int k = 1; k <= 40; k++) {
            x.mend(0, 9, k);
            is(x.count(2), k);
        }
        x.mend(0, 9, 41);
        is(x.count(2), 40);
        x.mend(0, 8, 1);
        is(x.count(2), 40);
        for (int left = 39; left >= 0; left--) {
            is(x.undo(), left);
        }
        is(x.undo(), STATE);
        is(x.of(0, 9), 2);
        is(x.of(0, 8), 20);
        for (int left = 39; left >= 0; left--) {
            is(x.redo(), left);
        }
        is(x.redo(), STATE);
        is(x.of(0, 9), 41);
        is(x.of(0, 8), 1);
    }

    /** SECONDS and TIRED by turns, so that each CHANGE that is kept is seen to be another one. */
    @Sentence(in = "Terms 4", says = "40 at most are kept")
    static void theLatestFortyAreKept() {
        TwentyPushes x = new TwentyPushes();
        for (int k = 0; k < 45; k++) {
            x.mend(0, 9 + k % 2, k % 2 == 0 ? 100 + k : 1 + k % 12);
        }
        for (int k = 44; k >= 5; k--) {
            is(x.of(0, 9 + k % 2), k % 2 == 0 ? 100 + k : 1 + k % 12);
            is(x.undo(), k - 5);
        }
        is(x.of(0, 9), 104);
        is(x.of(0, 10), 4);
        is(x.undo(), STATE);
        for (int k = 5; k < 45; k++) {
            is(x.redo(), 44 - k);
            is(x.of(0, 9 + k % 2), k % 2 == 0 ? 100 + k : 1 + k % 12);
        }
        is(x.redo(), STATE);
    }

    @Sentence(in = "Terms 4", says = "deeds are none")
    static void deedsAreNoChanges() {
        TwentyPushes x = by("1", 3, 4);
        lay(x, 0, 4, 1, 0);
        x.undo();
        is(x.count(2), 0);
        x.on(9);
        x.push();
        x.off();
        x.image();
        x.on(9);
        x.back();
        x.child(41, 0);
        x.children(0, 0, 1);
        enact(x, "2");
        x.body(1);
        x.keep(1, 0);
        x.act(0, 0, 1);
        is(x.count(2), 0);
        is(x.undo(), STATE);
        // nor do they come behind one that is undone
        is(x.redo(), 0);
        is(x.of(0, 8), 3);
        is(x.count(0), 3);
        is(x.led(1), 1);
    }

    @Sentence(in = "Terms 4", says = "AN IMAGE keeps the TURN in deed, what LED tells.")
    static void image() {
        TwentyPushes x = by("h+r", 5, 1, 4);
        is(x.back(), STATE);
        x.on(9);
        pushes(x, 2);
        x.image();
        long[] kept = new long[8];
        for (int what = 0; what < 8; what++) {
            kept[what] = x.led(what);
        }
        pushes(x, 3);
        x.on(119);
        x.push();
        x.off();
        x.mend(0, 8, 4);
        for (int again = 0; again < 2; again++) {
            is(x.back(), 0);
            for (int what = 0; what < 8; what++) {
                is(x.led(what), kept[what]);
            }
            is(x.on(9), STATE);
            // HEIGHT 4 and ROUND 2 go on; CHANGES stay
            is(x.push(), 6 + 2);
            is(x.push(), 8 + 3);
            is(x.push(), STATE);
            is(x.led(4), 8);
        }
        is(x.of(0, 8), 4);
    }

    @Sentence(in = "Terms 4", says = "AN IMAGE keeps the TURN in deed")
    static void imageOfSeconds() {
        TwentyPushes x = by("5", 9, 4);
        x.mend(0, 9, 20);
        x.on(9);
        pushes(x, 2);
        x.image();
        x.off();
        x.on(9);
        is(x.back(), 0);
        is(x.push(), 5);
        is(x.led(6), 3);
        is(x.push(), 5);
        is(x.led(6), STATE);
        is(x.led(0), 1);
        // nobody was on as it was kept, so nobody is on
        x.image();
        x.on(9);
        is(x.back(), 1);
        is(x.led(6), STATE);
        is(x.push(), STATE);
    }

    @Sentence(in = "Terms 4", says = "what LED tells.")
    static void imageOfTheGreatestHeight() {
        TwentyPushes x = by("1", 2, 4, 1);
        x.image();
        x.on(9);
        x.push();
        x.off();
        is(x.back(), 0);
        is(x.led(4), 0);
        is(x.led(5), NOT);
        x.on(9);
        x.push();
        x.image();
        x.off();
        x.on(19);
        x.push();
        is(x.led(4), 2);
        is(x.led(5), 1);
        is(x.back(), 0);
        is(x.led(4), 1);
        is(x.led(5), 0);
    }

    /** All numbers, the QUEUE as well, are as they are at the push. */
    @Sentence(in = "Terms 1", says = "q how many wait in that QUEUE")
    static void waitingInDeed() {
        TwentyPushes x = by("q+1", 30, 4, 4, 4);
        x.on(9);
        is(x.push(), 3);
        x.mend(2, 5, 1);
        is(x.push(), 2);
        x.mend(1, 5, 3);
        is(x.push(), 1);
        x.mend(0, 5, 1);
        is(x.push(), 1);
        x.mend(1, 5, 0);
        is(x.push(), 2);
        x.off();
        // one of another QUEUE, on SWING 1, and one of none, on SWING 2
        x.on(119);
        is(x.push(), 3);
        x.off();
        x.mend(1, 5, 3);
        x.on(219);
        is(x.push(), 1);
        x.off();
        for (int child = 0; child < 3; child++) {
            x.mend(child, 5, 2);
        }
        for (int k = 3; k < 9; k++) {
            x.child(40, 2);
        }
        x.on(289);
        is(x.push(), 9);
    }
}
