import java.util.Arrays;
import java.util.function.ToLongFunction;

/** The paragraph on answers: which of several is given, that a refused call changes nothing; and how long an object is used. */
final class AnswerBounds extends Bounds {
    @Sentence(in = "What it is", says = "An object is used for at most 512 calls after it has been made")
    static void usedToTheEnd() {
        TwentyPushes x = new TwentyPushes();
        for (int call = 1; call < 512; call++) {
            is(x.mend(0, 9, call % 200 + 1), call == 1 ? 0 : (call - 1) % 200 + 1);
        }
        is(x.of(0, 9), 511 % 200 + 1);
        TwentyPushes y = with(9);
        for (int call = 10; call <= 512; call++) {
            is(y.each(3600), 30);
        }
    }

    @Sentence(in = "Answers", says = "Answers, of several the one named first")
    static void namedFirst() {
        TwentyPushes x = withShelves(by("1", 10, 4, 4, 4, 4, 4, 4));
        x.mend(5, 5, 3);
        x.mend(4, 5, 1);
        // BAD ahead of NOT, STATE, -11, -12, -13, -14
        all(BAD, x.afternoon(0, 5, 1), x.join(0, 5, 0), x.each(0), x.join(1, 5, 2), x.order(0, 4), x.held(0, 50), x.held(1, 90));
        all(VOID, x.trade(0, 4), x.trade(0, 1), x.trade(1, 6), x.trade(1, 55));
        for (int shelf = 0; shelf <= 2; shelf++) {
            all(BAD, x.judge(shelf, 0, 0), x.judge(shelf, 9, 9), x.who(shelf, 39, 0), x.who(shelf, 9, -1), x.sure(shelf, 309, 0),
                    x.sure(shelf, 9, 9), x.taken(shelf, 8), x.children(shelf, 0, 10), x.shift(shelf, 9, 6, 9, -1), x.shift(-1, 9, shelf, 9, -1));
        }
        all(BAD, x.row(0, 5, -1), x.row(6, 0, -1));
        x.mend(5, 5, 0);
        x.mend(4, 5, 0);
        all(BAD, x.order(0, -2), x.order(0, 6), x.order(3, -1));
        is(x.order(0, 5), STATE);
        x.on(9);
        all(BAD, x.on(0), x.on(309));
        // STATE ahead of NOT
        x.mend(4, 5, 1);
        is(x.trade(1, 4), STATE);
        // -11 ahead of -12 and -13, -12 ahead of -13
        all(NOTHING_THERE, x.put(0, 60, 1), x.shift(0, 0, 1, 0, 1), x.shift(1, 0, 0, 0, 1), x.shift(0, 9, 3, 9, -1), x.shift(3, 9, 0, 9, 9));
        all(OTHER_KIND, x.put(1, 60, 1), x.shift(2, 9, 3, 9, 9), x.shift(1, -1, 3, -1, -1), x.children(2, -1, 1));
    }

    @Sentence(in = "Answers", says = "but a call's own line goes ahead: BAD (-1): no such number, or it is not as said;"
            + " NOT (-2): as told; FULL (-3); STATE (-5): as told; -11 to -14. VOID is -2000000000.")
    static void badAheadOfFull() {
        is(TwentyPushes.BAD, -1);
        is(TwentyPushes.NOT, -2);
        is(TwentyPushes.FULL, -3);
        is(TwentyPushes.STATE, -5);
        is(TwentyPushes.VOID, -2000000000);
        TwentyPushes x = with(9);
        all(BAD, x.child(9, 0), x.child(41, 4));
        for (int k = 0; k < 120; k++) {
            x.feed('1');
        }
        all(BAD, x.feed(-1), x.feed(256));
        for (int k = 0; k < 50; k++) {
            x.body(0);
        }
        all(BAD, x.body(-1), x.body(8));
        // a SHELF that holds nothing is missing, so it is no refusal; nor is what has no BODY, ACT
        is(x.children(0, 0, 1), 0);
        all(0, x.act(50, 0, 1), x.act(0, 4, 1));
        all(Long.MIN_VALUE, x.element(6, 0), x.element(0, 0));
        is(x.unfair(0, 0), VOID);
    }

    // ---- what is answered so changes nothing

    /** Nothing is at its first value: a TURN is on, one CHANGE is undone, an IMAGE and a TRACE are there. */
    private static TwentyPushes rich() {
        TwentyPushes x = by("h*2+q+1", 3, 1, 4, 9);
        x.child(23, 1);
        x.child(41, 3);
        x.mend(1, 3, 3);
        x.mend(2, 4, 0);
        x.mend(0, 2, 7);
        x.mend(2, 6, 4);
        x.mend(0, 10, 4);
        x.mend(0, 9, 50);
        x.undo();
        withShelves(x);
        lay(x, 3, 7, 11, 15);
        x.on(29);
        x.push();
        x.off();
        x.on(201);
        pushes(x, 2);
        x.image();
        x.push();
        x.body(7);
        x.act(1, 3, 5);
        feed(x, "s;");
        return x;
    }

    private static TwentyPushes full() {
        TwentyPushes x = rich();
        for (int k = 5; k < 9; k++) {
            x.child(52, 2);
        }
        for (int k = 2; k < 50; k++) {
            x.body(k % 8);
        }
        for (int k = 2; k < 120; k++) {
            x.feed('5');
        }
        return x;
    }

    /** All that can be asked for, and then what is seen by deeds alone; the object is spent by it. */
    private static long[] seen(TwentyPushes x) {
        long[] seen = new long[300];
        int size = 0;
        for (int what = 0; what <= 10; what++) {
            for (int number = 0; number < (what < 6 ? 9 : what == 6 ? 3 : 1); number++) {
                seen[size++] = x.of(number, what);
            }
        }
        for (int what = 0; what < 8; what++) {
            seen[size++] = x.led(what);
            seen[size++] = what < 5 ? x.count(what) : 0;
            seen[size++] = what < 6 ? x.taken(what, 0) : 0;
        }
        for (int i = 0; i < 10; i++) {
            seen[size++] = x.trace(i);
        }
        for (int i = 0; i < 4; i++) {
            seen[size++] = x.element(2, i);
            seen[size++] = x.element(3, i);
            seen[size++] = x.put(i, 3, 1);
        }
        for (int child = 0; child < 4; child++) {
            seen[size++] = x.turn(child * 10 + 9, child, 1);
            seen[size++] = x.afternoon(700, child, 0);
            seen[size++] = x.drawn(3, 2, 700, child);
        }
        seen[size++] = x.push();
        seen[size++] = x.led(7);
        seen[size++] = x.back();
        seen[size++] = x.led(7);
        seen[size++] = x.push();
        seen[size++] = x.redo();
        seen[size++] = x.of(0, 9);
        seen[size++] = x.undo();
        seen[size++] = x.undo();
        seen[size++] = x.of(0, 10);
        seen[size++] = x.child(41, 0);
        seen[size++] = x.body(3);
        seen[size++] = x.feed('5');
        seen[size++] = x.law();
        seen[size++] = x.turn(9, 3, 1);
        return Arrays.copyOf(seen, size);
    }

    private static void changesNothing(long answer, TwentyPushes asked, long[] due, ToLongFunction<TwentyPushes> call) {
        is(call.applyAsLong(asked), answer);
        long[] seen = seen(asked);
        for (int k = 0; k < due.length; k++) {
            is(seen[k], due[k]);
        }
    }

    @SafeVarargs
    private static void changeNothing(long answer, ToLongFunction<TwentyPushes>... calls) {
        long[] due = seen(rich());
        for (ToLongFunction<TwentyPushes> call : calls) {
            changesNothing(answer, rich(), due, call);
        }
    }

    @SafeVarargs
    private static void changeNothingFull(long answer, ToLongFunction<TwentyPushes>... calls) {
        long[] due = seen(full());
        for (ToLongFunction<TwentyPushes> call : calls) {
            changesNothing(answer, full(), due, call);
        }
    }

    @Sentence(in = "Answers", says = "What is answered so changes nothing.")
    static void refusedChangesNothing() {
        changeNothing(BAD, x -> x.child(9, 0), x -> x.child(41, 4), x -> x.child(44, 0), x -> x.children(6, 0, 1), x -> x.children(3, 0, 0),
                x -> x.children(3, 0, 10), x -> x.mend(0, 0, 0), x -> x.mend(0, 0, 10), x -> x.mend(0, 1, 4), x -> x.mend(0, 2, 10),
                x -> x.mend(0, 3, 4), x -> x.mend(0, 4, 0), x -> x.mend(0, 4, 5), x -> x.mend(0, 5, 4), x -> x.mend(0, 6, 10),
                x -> x.mend(3, 6, 5), x -> x.mend(0, 7, 4), x -> x.mend(0, 8, 0), x -> x.mend(0, 8, 31), x -> x.mend(0, 9, 201),
                x -> x.mend(0, 10, 13), x -> x.mend(1, 8, 5), x -> x.mend(5, 0, 5), x -> x.mend(0, 11, 5), x -> x.of(5, 0),
                x -> x.feed(-1), x -> x.feed(256), x -> x.on(0), x -> x.on(309), x -> x.led(8), x -> x.body(-1), x -> x.body(8),
                x -> x.trace(-1), x -> x.trace(24), x -> x.keep(6, 0), x -> x.keep(3, 2), x -> x.keep(3, -2), x -> x.row(3, 5, 3),
                x -> x.row(3, 0, 61), x -> x.row(6, 0, 3), x -> x.put(6, 0, 5), x -> x.shift(3, 0, 6, 0, 1), x -> x.taken(3, 8),
                x -> x.count(5));
        changeNothing(BAD, x -> x.turn(0, 0, 0), x -> x.turn(9, 0, 4), x -> x.longest(9, 9), x -> x.counter(9, 9), x -> x.afternoon(0, 0, 0),
                x -> x.been(9, 3), x -> x.join(9, 0, 2), x -> x.each(3601), x -> x.order(0, 3), x -> x.held(9, 50),
                x -> x.drawn(0, 0, 9, 0), x -> x.judge(3, 9, 9), x -> x.who(3, 39, 0), x -> x.sure(3, 0, 0));
        changeNothing(VOID, x -> x.unfair(0, 0), x -> x.trade(9, 0), x -> x.trade(0, 1));
        changeNothing(Long.MIN_VALUE, x -> x.element(6, 0), x -> x.element(0, 0), x -> x.element(1, 0), x -> x.element(3, 3));
        changeNothing(NOT, x -> x.afternoon(3600, 4, 1), x -> x.join(1, 4, 0), x -> x.each(1), x -> x.trade(1, 1), x -> x.judge(3, 9, 2));
        changeNothing(STATE, x -> x.held(9, 40), x -> x.trade(9, 3), x -> x.on(9), x -> x.on(119));
        changeNothingFull(FULL, x -> x.child(41, 0), x -> x.feed('5'), x -> x.body(0));
        changeNothingFull(STATE, x -> x.on(9));
    }

    @Sentence(in = "Answers", says = "-11 to -14")
    static void hostsRefusalsChangeNothing() {
        changeNothing(NOTHING_THERE, x -> x.put(0, 0, 5), x -> x.shift(0, 0, 3, 0, 1), x -> x.shift(3, 0, 0, 0, 1), x -> x.taken(0, 0),
                x -> x.judge(0, 9, 0), x -> x.who(0, 9, 0), x -> x.sure(0, 9, 0));
        changeNothing(OTHER_KIND, x -> x.put(1, 0, 5), x -> x.shift(1, 0, 3, 0, 1), x -> x.shift(2, 0, 3, 0, 1), x -> x.taken(1, 1),
                x -> x.taken(3, 0), x -> x.judge(2, 9, 0), x -> x.who(1, 9, 0), x -> x.sure(2, 9, 0), x -> x.children(1, 0, 1),
                x -> x.children(2, 0, 1));
        changeNothing(NO_PLACE, x -> x.put(3, 3, 5), x -> x.put(3, -1, 5), x -> x.shift(3, 0, 3, 1, 3), x -> x.shift(3, 0, 3, 0, -1));
        changeNothing(BELOW_0, x -> x.row(3, 0, -1), x -> x.row(0, 1, LEAST));
        // and what is no refusal, but nothing that came either
        changeNothing(0, x -> x.children(3, 0, 1), x -> x.children(0, 0, 9), x -> x.children(3, -1, 1), x -> x.shift(3, 0, 3, 3, 0));
        changeNothing(7, x -> x.mend(0, 2, 7));
    }

    /** STATE as there is none: no TURN on, nothing to undo, no IMAGE. */
    @Sentence(in = "Answers", says = "STATE (-5): as told")
    static void statesOfANewObjectChangeNothing() {
        long[] due = seen(new TwentyPushes());
        changesNothing(STATE, new TwentyPushes(), due, TwentyPushes::push);
        changesNothing(STATE, new TwentyPushes(), due, TwentyPushes::off);
        changesNothing(STATE, new TwentyPushes(), due, TwentyPushes::back);
        changesNothing(STATE, new TwentyPushes(), due, TwentyPushes::undo);
        changesNothing(STATE, new TwentyPushes(), due, TwentyPushes::redo);
        changesNothing(STATE, new TwentyPushes(), due, x -> x.led(6));
    }

    /** LONGEST, JOIN, EACH, TRADE and the others try other numbers, but in thought. */
    @Sentence(in = "Terms 2", says = "A TURN in thought")
    static void thoughtsChangeNothing() {
        long[] due = seen(rich());
        ToLongFunction<TwentyPushes> none = x -> 0;
        changesNothing(0, rich(), due, none);
        changeNothing(0, x -> 0 * x.turn(9, 3, 1), x -> 0 * x.longest(9, 3), x -> 0 * x.counter(9, 3), x -> 0 * x.unfair(9, 3),
                x -> 0 * x.afternoon(900, 0, 2), x -> 0 * x.been(900, -1), x -> 0 * x.join(900, 4, 0), x -> 0 * x.join(900, 1, 1),
                x -> 0 * x.each(900), x -> 0 * x.order(0, 1), x -> 0 * x.held(900, 3), x -> 0 * x.trade(900, 1),
                x -> 0 * x.drawn(5, 3, 900, -1), x -> 0 * x.judge(3, 9, 2), x -> 0 * x.who(3, 9, 2), x -> 0 * x.sure(3, 9, 2),
                x -> 0 * x.led(4), x -> 0 * x.of(0, 0), x -> 0 * x.count(0));
    }

    @Sentence(in = "Answers", says = "All memory is the class's own.")
    static void objectsKnowNothingOfEachOther() {
        long[] due = seen(rich());
        long[] fresh = seen(new TwentyPushes());
        TwentyPushes one = rich();
        TwentyPushes other = new TwentyPushes();
        TwentyPushes third = rich();
        seen(full());
        changesNothing(0, third, due, x -> 0);
        changesNothing(0, other, fresh, x -> 0);
        changesNothing(0, one, due, x -> 0);
    }
}
