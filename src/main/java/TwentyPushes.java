import java.util.Arrays;

/** Twenty pushes each: swings, their queues, turns in thought and in deed, and what is heard of them. */
public final class TwentyPushes {
    public static final int BAD = -1, NOT = -2, FULL = -3, STATE = -5, VOID = -2000000000;

    private static final int NOTHING_THERE = -11, OTHER_KIND = -12, NO_PLACE = -13, SIZE_BELOW_ZERO = -14;
    private static final int CHILDREN_MOST = 9, SWINGS = 3, AS_IT_IS = 9;
    private static final int WEIGHT = 0, LEGS = 1, CAP = 2, BENT = 3, FRIEND = 4, QUEUE = 5;
    private static final int LENGTH = 6, PUSHER = 7, PUSHES = 8, SECONDS = 9, TIRED = 10;
    private static final int SLOWLY = 1, QUICKLY = 2, BY_TENS = 3;
    private static final int ROUNDS_MOST = 60, WAITING_MOST = 8, BELL_MOST = 3600, CAP_MOST = 9, PUSHES_MOST = 30;
    private static final int BYTES = 0;
    // Long.MIN_VALUE by its own bit: of Long the language lists the functions alone
    private static final long NO_ELEMENT = 1L << 63;

    private final Numbers numbers;
    private final Changes changes;
    private final Law theLaw;
    private final Play play;
    private final Line[] lines;
    private final Order best;
    private final Draw draw;
    private final Deed deed;
    private final Deed imaged;
    private final Bodies bodies;
    private final Shelves shelves;
    private boolean hasImage;

    public TwentyPushes() {
        numbers = new Numbers();
        changes = new Changes(numbers);
        theLaw = new Law();
        play = new Play(numbers, theLaw);
        lines = new Line[SWINGS];
        for (int swing = 0; swing < SWINGS; swing++) {
            lines[swing] = new Line(numbers, play, swing);
        }
        best = new Order();
        draw = new Draw();
        deed = new Deed();
        imaged = new Deed();
        bodies = new Bodies();
        shelves = new Shelves();
    }

    // ---- children, swings

    public int child(int wl, int queue) {
        // below 0 wl has no WEIGHT either
        return numbers.welcome(wl / 10, wl % 10, queue);
    }

    public int children(int shelf, int i, int n) {
        if (!shelves.isShelf(shelf) || n < 1 || n > CHILDREN_MOST) {
            return BAD;
        }
        int refusal = shelves.refusalOfBytes(shelf);
        if (refusal == NOTHING_THERE) {
            return 0;
        }
        if (refusal != 0) {
            return refusal;
        }
        int came = 0;
        for (int at = i; came < n && shelves.hasPlaces(shelf, at, 3); at += 3) {
            int weight = (int) shelves.elementAt(shelf, at);
            int legs = (int) shelves.elementAt(shelf, at + 1);
            int queue = (int) shelves.elementAt(shelf, at + 2);
            if (numbers.welcome(weight, legs, queue) < 0) {
                break;
            }
            came++;
        }
        return came;
    }

    public int mend(int number, int what, int v) {
        int place = numbers.placeOf(number, what);
        if (place < 0 || !numbers.mayBe(number, what, v)) {
            return BAD;
        }
        int was = numbers.valueAt(place);
        if (was != v) {
            changes.make(place, v);
        }
        return was;
    }

    public int of(int number, int what) {
        int place = numbers.placeOf(number, what);
        return place < 0 ? BAD : numbers.valueAt(place);
    }

    public int feed(int letter) {
        if (letter < 0 || letter > 255) {
            return BAD;
        }
        return theLaw.write(letter);
    }

    public int law() {
        return theLaw.enact();
    }

    // ---- turns in thought

    public int turn(int sc, int q, int what) {
        if (!isTold(sc, q) || what < 0 || what > 3) {
            return BAD;
        }
        Turn t = play.think(swingOf(sc), childOf(sc), sc % 10, q);
        switch (what) {
            case 0:
                return t.rounds;
            case 1:
                return t.seconds;
            case 2:
                return t.top;
            default:
                return play.countedOf(t);
        }
    }

    public int longest(int sc, int q) {
        if (!isTold(sc, q)) {
            return BAD;
        }
        int cap = numbers.placeOf(childOf(sc), CAP);
        int own = numbers.valueAt(cap);
        int found = 0;
        int most = -1;
        for (int tried = 0; tried <= CAP_MOST; tried++) {
            numbers.setAt(cap, tried);
            int lasts = play.think(swingOf(sc), childOf(sc), sc % 10, q).seconds;
            if (lasts > most) {
                most = lasts;
                found = tried;
            }
        }
        numbers.setAt(cap, own);
        return found;
    }

    public int counter(int sc, int q) {
        if (!isTold(sc, q)) {
            return BAD;
        }
        int found = AS_IT_IS;
        int most = -1;
        for (int who = 0; who <= AS_IT_IS; who++) {
            if (!numbers.mayCount(who, childOf(sc))) {
                continue;
            }
            int lasts = play.think(swingOf(sc), childOf(sc), who, q).seconds;
            if (lasts > most) {
                most = lasts;
                found = who;
            }
        }
        return found;
    }

    public int unfair(int sc, int q) {
        if (!isTold(sc, q)) {
            return VOID;
        }
        return play.think(swingOf(sc), childOf(sc), sc % 10, q).rounds - numbers.valueOf(0, PUSHES);
    }

    // ---- afternoons

    public int afternoon(int bell, int child, int what) {
        if (!isBell(bell) || !numbers.isChild(child) || what < 0 || what > 2) {
            return BAD;
        }
        int swing = numbers.valueOf(child, QUEUE);
        if (!numbers.isSwing(swing)) {
            return what == 1 ? NOT : 0;
        }
        Line line = lines[swing];
        line.form();
        line.foresee();
        if (what == 1) {
            return line.beginOf(child, bell);
        }
        line.spend(bell, null);
        int often = line.oftenOf(child);
        return what == 0 ? often : often * line.roundsOf(child);
    }

    public int been(int bell, int swing) {
        if (!isBell(bell) || swing < -1 || swing >= SWINGS) {
            return BAD;
        }
        for (int k = 0; k < SWINGS; k++) {
            lines[k].form();
            lines[k].foresee();
            lines[k].spend(bell, null);
        }
        if (swing >= 0) {
            return lines[swing].end;
        }
        int bits = 0;
        for (int child = 0; child < numbers.children; child++) {
            if (timesOnAll(child) == 0) {
                bits |= 1 << child;
            }
        }
        return bits;
    }

    public int join(int bell, int child, int what) {
        if (!isBell(bell) || !numbers.isChild(child) || what < 0 || what > 1) {
            return BAD;
        }
        int queue = numbers.placeOf(child, QUEUE);
        int own = numbers.valueAt(queue);
        int found = NOT;
        int soonest = NOT;
        for (int swing = 0; swing < SWINGS; swing++) {
            numbers.setAt(queue, swing);
            lines[swing].form();
            lines[swing].foresee();
            int begin = lines[swing].beginOf(child, bell);
            if (begin >= 0 && (found == NOT || begin < soonest)) {
                found = swing;
                soonest = begin;
            }
        }
        numbers.setAt(queue, own);
        return what == 0 ? found : soonest;
    }

    public int each(int bell) {
        if (!isBell(bell)) {
            return BAD;
        }
        int place = numbers.placeOf(0, PUSHES);
        int own = numbers.valueAt(place);
        int found = NOT;
        for (int pushes = PUSHES_MOST; pushes >= 1 && found == NOT; pushes--) {
            numbers.setAt(place, pushes);
            boolean all = true;
            for (int k = 0; k < SWINGS && all; k++) {
                lines[k].form();
                lines[k].foresee();
                all = lines[k].allBegin(bell);
            }
            found = all ? pushes : NOT;
        }
        numbers.setAt(place, own);
        return found;
    }

    public int order(int swing, int place) {
        if (!numbers.isSwing(swing) || place < -1) {
            return BAD;
        }
        Line line = lines[swing];
        line.form();
        if (place >= line.size) {
            return BAD;
        }
        if (line.size > Order.MOST) {
            return STATE;
        }
        best.begin(line.size);
        line.foreseePairs(best.lasting, Order.MOST);
        best.seek();
        return place < 0 ? best.least : line.childAt(best.foundAt(place));
    }

    public int held(int bell, int cm) {
        int child = cm / 10;
        if (!isBell(bell) || cm < 0 || !numbers.isChild(child)) {
            return BAD;
        }
        int swing = numbers.valueOf(child, QUEUE);
        if (!numbers.isSwing(swing)) {
            return STATE;
        }
        lines[swing].form();
        return lines[swing].oftenWhileHeld(child, cm % 10, bell);
    }

    public int trade(int bell, int ab) {
        int one = ab / 10;
        int other = ab % 10;
        if (!isBell(bell) || ab < 0 || one == other || !numbers.isChild(one) || !numbers.isChild(other)) {
            return VOID;
        }
        int swing = numbers.valueOf(one, QUEUE);
        if (!numbers.isSwing(swing) || numbers.valueOf(other, QUEUE) != swing) {
            return STATE;
        }
        Line line = lines[swing];
        line.form();
        line.foresee();
        int before = line.beginOf(one, bell);
        line.swap(one, other);
        line.foresee();
        int after = line.beginOf(one, bell);
        return before < 0 || after < 0 ? NOT : before - after;
    }

    public int drawn(int seed, int n, int bell, int child) {
        if (n < 1 || n > 10 || !isBell(bell) || child < -1 || child >= numbers.children) {
            return BAD;
        }
        draw.begin(seed, numbers.valueOf(0, TIRED));
        for (int k = 0; k < SWINGS; k++) {
            lines[k].form();
            lines[k].foresee();
        }
        for (int done = 0; done < n; done++) {
            for (int k = 0; k < SWINGS; k++) {
                lines[k].spend(bell, draw);
            }
        }
        return child < 0 ? timesOfAll() : timesOnAll(child);
    }

    // ---- squeals

    public int judge(int shelf, int sc, int q) {
        if (!shelves.isShelf(shelf) || !isTold(sc, q)) {
            return BAD;
        }
        int refusal = shelves.refusalOfBytes(shelf);
        if (refusal != 0) {
            return refusal;
        }
        return firstUnlike(shelf, swingOf(sc) * 10 + sc % 10, childOf(sc), q);
    }

    public int who(int shelf, int sw, int q) {
        if (!shelves.isShelf(shelf) || sw < 0 || !numbers.isSwing(sw / 10) || !isWaiting(q)) {
            return BAD;
        }
        int told = sw % 10;
        if (told != AS_IT_IS && !numbers.isChild(told)) {
            return BAD;
        }
        int refusal = shelves.refusalOfBytes(shelf);
        if (refusal != 0) {
            return refusal;
        }
        int bits = 0;
        for (int child = 0; child < numbers.children; child++) {
            if (child != told && firstUnlike(shelf, sw, child, q) == NOT) {
                bits |= 1 << child;
            }
        }
        return bits;
    }

    public int sure(int shelf, int sc, int q) {
        if (!shelves.isShelf(shelf) || !isTold(sc, q)) {
            return BAD;
        }
        int refusal = shelves.refusalOfBytes(shelf);
        if (refusal != 0) {
            return refusal;
        }
        int bits = 0;
        for (int told = 0; told <= AS_IT_IS; told++) {
            if (numbers.mayCount(told, childOf(sc))
                    && firstUnlike(shelf, swingOf(sc) * 10 + told, childOf(sc), q) == NOT) {
                bits |= 1 << told;
            }
        }
        return bits;
    }

    // ---- in deed

    public int on(int sc) {
        if (!isTold(sc, 0)) {
            return BAD;
        }
        if (deed.busy) {
            return STATE;
        }
        deed.busy = true;
        deed.turn.begin(swingOf(sc), childOf(sc), sc % 10);
        return deed.turn.child;
    }

    public int push() {
        if (!deed.busy) {
            return STATE;
        }
        Turn t = deed.turn;
        play.step(t, numbers.waitingBehind(t.swing, t.child));
        deed.lead(play.isOver(t));
        return t.latest;
    }

    public int off() {
        if (!deed.busy) {
            return STATE;
        }
        deed.busy = false;
        deed.offs++;
        return deed.turn.rounds;
    }

    public int led(int what) {
        switch (what) {
            case 0:
                return deed.turns;
            case 1:
                return deed.rounds;
            case 2:
                return deed.seconds;
            case 3:
                return deed.offs;
            case 4:
                return deed.top;
            case 5:
                return deed.topChild;
            case 6:
                return deed.busy ? deed.turn.rounds : STATE;
            case 7:
                return deed.busy ? play.countedOf(deed.turn) : STATE;
            default:
                return BAD;
        }
    }

    public int image() {
        imaged.copy(deed);
        hasImage = true;
        return deed.turns;
    }

    public int back() {
        if (!hasImage) {
            return STATE;
        }
        deed.copy(imaged);
        return deed.turns;
    }

    public int undo() {
        return changes.takeBack();
    }

    public int redo() {
        return changes.makeAgain();
    }

    // ---- acts, shelves

    public int body(int kind) {
        return bodies.add(kind);
    }

    public int act(int body, int act, int x) {
        return bodies.perform(body, act, x);
    }

    public int trace(int i) {
        return bodies.traceAt(i);
    }

    public int keep(int shelf, int body) {
        if (!shelves.isShelf(shelf) || (body != -1 && !bodies.isBody(body))) {
            return BAD;
        }
        shelves.hold(shelf, body);
        return 1;
    }

    public int row(int shelf, int sort, int n) {
        if (!shelves.isShelf(shelf) || sort < 0 || sort >= Shelves.SORTS || n > Shelves.PLACES) {
            return BAD;
        }
        if (n < 0) {
            return SIZE_BELOW_ZERO;
        }
        shelves.layRow(shelf, sort, n);
        return 1;
    }

    public int put(int shelf, int i, long v) {
        int refusal = shelves.refusalAt(shelf, i);
        if (refusal != 0) {
            return refusal;
        }
        shelves.setElement(shelf, i, v);
        return 1;
    }

    public long element(int shelf, int i) {
        return shelves.refusalAt(shelf, i) != 0 ? NO_ELEMENT : shelves.elementAt(shelf, i);
    }

    public int shift(int shelf, int i, int other, int j, int n) {
        if (!shelves.isShelf(shelf) || !shelves.isShelf(other)) {
            return BAD;
        }
        if (shelves.isEmpty(shelf) || shelves.isEmpty(other)) {
            return NOTHING_THERE;
        }
        if (!shelves.areLikeRows(shelf, other)) {
            return OTHER_KIND;
        }
        if (!shelves.hasPlaces(shelf, i, n) || !shelves.hasPlaces(other, j, n)) {
            return NO_PLACE;
        }
        shelves.move(shelf, i, other, j, n);
        return n;
    }

    public int taken(int shelf, int k) {
        if (!shelves.isShelf(shelf) || k < 0 || k >= Bodies.KINDS) {
            return BAD;
        }
        if (shelves.isEmpty(shelf)) {
            return NOTHING_THERE;
        }
        int kind = bodies.kindOf(shelves.bodyOn(shelf));
        return bodies.isUnder(kind, k) ? kind : OTHER_KIND;
    }

    public int count(int what) {
        switch (what) {
            case 0:
                return numbers.children;
            case 1:
                return theLaw.written;
            case 2:
                return changes.done;
            case 3:
                return bodies.size;
            case 4:
                return bodies.ran;
            default:
                return BAD;
        }
    }

    // ---- what several calls ask

    private static int swingOf(int sc) {
        return sc / 100;
    }

    private static int childOf(int sc) {
        return sc / 10 % 10;
    }

    private static boolean isBell(int bell) {
        return bell >= 1 && bell <= BELL_MOST;
    }

    private static boolean isWaiting(int q) {
        return q >= 0 && q <= WAITING_MOST;
    }

    private boolean isTold(int sc, int q) {
        return sc >= 0 && numbers.isSwing(swingOf(sc)) && numbers.isChild(childOf(sc))
                && numbers.mayCount(sc % 10, childOf(sc)) && isWaiting(q);
    }

    private int timesOnAll(int child) {
        int times = 0;
        for (int k = 0; k < SWINGS; k++) {
            times += lines[k].oftenOf(child);
        }
        return times;
    }

    private int timesOfAll() {
        int times = 0;
        for (int child = 0; child < numbers.children; child++) {
            times += timesOnAll(child);
        }
        return times;
    }

    /** The first squeal that is not as in that TURN (sw: 10 times the SWING, and who counts); NOT: all are. */
    private int firstUnlike(int shelf, int sw, int child, int q) {
        int rounds = play.think(sw / 10, child, sw % 10, q).rounds;
        int squeals = shelves.sizeOf(shelf);
        int both = Math.min(rounds, squeals);
        for (int k = 0; k < both; k++) {
            if (shelves.elementAt(shelf, k) != play.heardAt(k)) {
                return k;
            }
        }
        return rounds == squeals ? NOT : both;
    }

    /** All numbers that can be mended, in one row, so that a change is a place and two values. */
    private static final class Numbers {
        private static final int OF_A_CHILD = 6;
        private static final int LENGTHS = CHILDREN_MOST * OF_A_CHILD;
        private static final int RULES = LENGTHS + SWINGS;
        private static final int ALL = RULES + 4;
        private static final int[] LEAST = {1, 0, 0, 0, 0, 0, 1, 0, 1, 0, 0};
        private static final int[] MOST = {9, 3, 9, 3, 9, 3, 9, 3, 30, 200, 12};

        private final int[] values = new int[ALL];
        int children;

        Numbers() {
            for (int swing = 0; swing < SWINGS; swing++) {
                values[LENGTHS + swing] = 6;
            }
            values[RULES] = 2;
            values[RULES + PUSHES - PUSHER] = 20;
        }

        boolean isChild(int number) {
            return number >= 0 && number < children;
        }

        boolean isSwing(int number) {
            return number >= 0 && number < SWINGS;
        }

        boolean mayCount(int told, int child) {
            return told == AS_IT_IS || (told != child && isChild(told));
        }

        /** Where that number stands in the row; -1: there is none such. */
        int placeOf(int number, int what) {
            if (what < WEIGHT || what > TIRED) {
                return -1;
            }
            if (what < LENGTH) {
                return isChild(number) ? number * OF_A_CHILD + what : -1;
            }
            if (what == LENGTH) {
                return isSwing(number) ? LENGTHS + number : -1;
            }
            return number == 0 ? RULES + what - PUSHER : -1;
        }

        boolean isWithin(int what, int v) {
            return what >= WEIGHT && what <= TIRED && v >= LEAST[what] && v <= MOST[what];
        }

        boolean mayBe(int number, int what, int v) {
            return isWithin(what, v) && (what != FRIEND || mayCount(v, number));
        }

        int valueAt(int place) {
            return place >= 0 && place < ALL ? values[place] : 0;
        }

        void setAt(int place, int v) {
            if (place >= 0 && place < ALL) {
                values[place] = v;
            }
        }

        int valueOf(int number, int what) {
            return valueAt(placeOf(number, what));
        }

        /** How a CHILD (AS_IT_IS: nobody) counts for another one. */
        int bentFor(int told, int child) {
            if (!isChild(told)) {
                return 0;
            }
            int own = told * OF_A_CHILD;
            return values[own + FRIEND] == child ? SLOWLY : values[own + BENT];
        }

        /** The new CHILD's number; BAD or FULL. */
        int welcome(int weight, int legs, int queue) {
            if (!isWithin(WEIGHT, weight) || !isWithin(LEGS, legs) || !isWithin(QUEUE, queue)) {
                return BAD;
            }
            if (children >= CHILDREN_MOST) {
                return FULL;
            }
            int number = children;
            children++;
            setAt(placeOf(number, WEIGHT), weight);
            setAt(placeOf(number, LEGS), legs);
            setAt(placeOf(number, CAP), CAP_MOST);
            setAt(placeOf(number, BENT), 0);
            setAt(placeOf(number, FRIEND), AS_IT_IS);
            setAt(placeOf(number, QUEUE), queue);
            return number;
        }

        int waitingBehind(int swing, int child) {
            int waiting = 0;
            for (int k = 0; k < children; k++) {
                if (k != child && valueOf(k, QUEUE) == swing) {
                    waiting++;
                }
            }
            return waiting;
        }
    }

    /** The latest changes, and behind them those undone that may be done again. */
    private static final class Changes {
        private static final int KEPT = 40;

        private final Numbers numbers;
        private final int[] places = new int[KEPT];
        private final int[] before = new int[KEPT];
        private final int[] after = new int[KEPT];
        int done;
        private int all;

        Changes(Numbers numbers) {
            this.numbers = numbers;
        }

        void make(int place, int v) {
            if (done >= KEPT) {
                forgetOldest();
            }
            places[done] = place;
            before[done] = numbers.valueAt(place);
            after[done] = v;
            done++;
            all = done;
            numbers.setAt(place, v);
        }

        private void forgetOldest() {
            System.arraycopy(places, 1, places, 0, KEPT - 1);
            System.arraycopy(before, 1, before, 0, KEPT - 1);
            System.arraycopy(after, 1, after, 0, KEPT - 1);
            done = KEPT - 1;
        }

        int takeBack() {
            if (done <= 0) {
                return STATE;
            }
            done--;
            numbers.setAt(places[done], before[done]);
            return done;
        }

        int makeAgain() {
            if (done >= all || done >= KEPT) {
                return STATE;
            }
            numbers.setAt(places[done], after[done]);
            done++;
            return all - done;
        }
    }

    /**
     * THE TAPE and THE LAW. A text is read once, into signs behind their operands, so that a ROUND
     * needs no reading: a number n is NUMBER + n, the k-th name is -1 - k, ';' ends each LINE.
     */
    private static final class Law {
        private static final int TAPE = 120, CODE = TAPE + 1, OPEN_MOST = 6, STACK = 64;
        private static final int COMPARISON = 2, OPERAND = 5, DIGITS_MOST = 4, NUMBER = 256, NEGATED = '~';
        private static final int LONGEST = 20;
        private static final String NAMES = "hswrqp";

        private final byte[] tape = new byte[TAPE];
        int written;
        private int at;
        private final int[] draft = new int[CODE];
        private int drafted;
        private final int[] code = new int[CODE];
        private int coded;
        private final int[] stack = new int[STACK];
        private final int[] named = new int[6];

        Law() {
        }

        int write(int letter) {
            if (written >= TAPE) {
                return FULL;
            }
            tape[written] = (byte) letter;
            written++;
            return written;
        }

        int enact() {
            at = 0;
            drafted = 0;
            boolean fits = readLine();
            for (int lines = 1; lines < TAPE && fits && letter() == ';'; lines++) {
                at++;
                fits = readLine();
            }
            // nothing is passed that does not fit, so where the reading stopped short is the FAULT
            boolean whole = fits && at == written;
            written = 0;
            if (!whole) {
                return -100 - at;
            }
            System.arraycopy(draft, 0, code, 0, drafted);
            coded = drafted;
            return 1;
        }

        private boolean readLine() {
            if (!readLevel(0, 0)) {
                return false;
            }
            if (letter() == '?') {
                at++;
                draw('?');
                if (!readLevel(0, 0)) {
                    return false;
                }
            }
            draw(';');
            return true;
        }

        /** Level 0 is E, 1 A, 2 B, 3 S, 4 P, 5 O; open: how many of ( ! - are. */
        private boolean readLevel(int level, int open) {
            if (level >= OPERAND) {
                return readOperand(open);
            }
            if (!readLevel(level + 1, open)) {
                return false;
            }
            for (int k = 0; k < TAPE && levelOf(letter()) == level; k++) {
                int sign = letter();
                at++;
                if (!readLevel(level + 1, open)) {
                    return false;
                }
                draw(sign);
                if (level == COMPARISON) {
                    break;
                }
            }
            return true;
        }

        private boolean readOperand(int open) {
            int letter = letter();
            if (isDigit(letter)) {
                readNumber();
                return true;
            }
            int name = letter > 0 ? NAMES.indexOf((char) letter) : -1;
            if (name >= 0) {
                at++;
                draw(-1 - name);
                return true;
            }
            if (open >= OPEN_MOST) {
                return false;
            }
            if (letter == '!' || letter == '-') {
                at++;
                boolean read = readOperand(open + 1);
                draw(letter == '!' ? '!' : NEGATED);
                return read;
            }
            return letter == '(' && readBracket(open + 1);
        }

        private boolean readBracket(int open) {
            at++;
            if (!readLevel(0, open) || letter() != ')') {
                return false;
            }
            at++;
            return true;
        }

        private void readNumber() {
            int number = 0;
            for (int digits = 0; digits < DIGITS_MOST && isDigit(letter()); digits++) {
                number = number * 10 + letter() - '0';
                at++;
            }
            draw(NUMBER + number);
        }

        private static boolean isDigit(int letter) {
            return letter >= '0' && letter <= '9';
        }

        private static int levelOf(int letter) {
            switch (letter) {
                case '|':
                    return 0;
                case '&':
                    return 1;
                case '<':
                case '=':
                case '>':
                    return COMPARISON;
                case '+':
                case '-':
                    return 3;
                case '*':
                case '/':
                case '%':
                    return 4;
                default:
                    return -1;
            }
        }

        /** The letter that is read next; -1 behind the last. */
        private int letter() {
            return at >= 0 && at < written && at < TAPE ? tape[at] & 255 : -1;
        }

        private void draw(int sign) {
            if (drafted < CODE) {
                draft[drafted] = sign;
                drafted++;
            }
        }

        /** How many seconds a ROUND lasts. */
        int lasting(int height, int length, int weight, int round, int waiting, int pusher) {
            if (coded == 0) {
                return length + height / 3 + 1;
            }
            named[0] = height;
            named[1] = length;
            named[2] = weight;
            named[3] = round;
            named[4] = waiting;
            named[5] = pusher;
            return Math.max(1, Math.min(LONGEST, worth()));
        }

        private int worth() {
            int size = 0;
            boolean counts = true;
            for (int k = 0; k < coded; k++) {
                int sign = code[k];
                if (sign < 0 || sign >= NUMBER) {
                    size = lay(size, sign < 0 ? valueNamed(-1 - sign) : sign - NUMBER);
                    continue;
                }
                // the reading has seen to the operands; this only keeps the stack's bounds in sight
                if (size < 1 || size > STACK) {
                    return 0;
                }
                int right = stack[size - 1];
                if (sign == ';' && counts) {
                    return right;
                }
                if (sign == ';' || sign == '?') {
                    counts = sign == ';' || right != 0;
                    size--;
                } else if (sign == '!' || sign == NEGATED) {
                    stack[size - 1] = sign == NEGATED ? -right : right == 0 ? 1 : 0;
                } else if (size >= 2) {
                    size--;
                    stack[size - 1] = joined(sign, stack[size - 1], right);
                }
            }
            return 0;
        }

        private int lay(int size, int v) {
            if (size < 0 || size >= STACK) {
                return size;
            }
            stack[size] = v;
            return size + 1;
        }

        private int valueNamed(int name) {
            return name >= 0 && name < named.length ? named[name] : 0;
        }

        private static int joined(int sign, int left, int right) {
            switch (sign) {
                case '|':
                    return left != 0 || right != 0 ? 1 : 0;
                case '&':
                    return left != 0 && right != 0 ? 1 : 0;
                case '<':
                    return left < right ? 1 : 0;
                case '=':
                    return left == right ? 1 : 0;
                case '>':
                    return left > right ? 1 : 0;
                case '+':
                    return left + right;
                case '-':
                    return left - right;
                case '*':
                    return left * right;
                case '/':
                    return right == 0 ? 0 : left / right;
                case '%':
                    return right == 0 ? 0 : left % right;
                default:
                    return 0;
            }
        }
    }

    /** A TURN so far. */
    private static final class Turn {
        int swing, child, told;
        int rounds, seconds, height, top, latest;

        Turn() {
        }

        void begin(int onSwing, int ofChild, int countedBy) {
            swing = onSwing;
            child = ofChild;
            told = countedBy;
            rounds = 0;
            seconds = 0;
            height = 0;
            top = 0;
            latest = 0;
        }

        void copy(Turn other) {
            begin(other.swing, other.child, other.told);
            rounds = other.rounds;
            seconds = other.seconds;
            height = other.height;
            top = other.top;
            latest = other.latest;
        }
    }

    /** How ROUNDS go, by the numbers and THE LAW as they are now. */
    private static final class Play {
        private final Numbers numbers;
        private final Law law;
        private final Turn thought = new Turn();
        private final int[] heard = new int[ROUNDS_MOST];

        Play(Numbers numbers, Law law) {
            this.numbers = numbers;
            this.law = law;
        }

        void step(Turn t, int waiting) {
            int weight = numbers.valueOf(t.child, WEIGHT);
            int pusher = numbers.valueOf(0, PUSHER);
            int risen = t.height + pusher + numbers.valueOf(t.child, LEGS) - weight / 3;
            t.height = Math.min(numbers.valueOf(t.child, CAP), Math.max(0, risen));
            int length = numbers.valueOf(t.swing, LENGTH);
            t.latest = law.lasting(t.height, length, weight, t.rounds, waiting, pusher);
            t.rounds++;
            t.seconds += t.latest;
            t.top = Math.max(t.top, t.height);
        }

        /** Never kept, since the one who counts may be mended within the TURN: it is told by the BENT of now. */
        int countedOf(Turn t) {
            int n = t.rounds;
            switch (numbers.bentFor(t.told, t.child)) {
                case SLOWLY:
                    return n - n / 3;
                case QUICKLY:
                    return n + n / 4;
                case BY_TENS:
                    return n - n % 10;
                default:
                    return n;
            }
        }

        boolean isOver(Turn t) {
            int seconds = numbers.valueOf(0, SECONDS);
            return countedOf(t) >= numbers.valueOf(0, PUSHES) || (seconds > 0 && t.seconds >= seconds)
                    || t.rounds >= ROUNDS_MOST;
        }

        /** A whole TURN in thought; what it answers holds until the next one. */
        Turn think(int swing, int child, int told, int waiting) {
            thought.begin(swing, child, told);
            for (int k = 0; k < ROUNDS_MOST; k++) {
                step(thought, waiting);
                heard[k] = thought.latest;
                if (isOver(thought)) {
                    break;
                }
            }
            return thought;
        }

        int heardAt(int round) {
            return round >= 0 && round < ROUNDS_MOST ? heard[round] : 0;
        }
    }

    /** Who is tired, by draws. */
    private static final class Draw {
        private int z;
        private int tired;

        Draw() {
        }

        void begin(int seed, int below) {
            z = seed;
            tired = below;
        }

        boolean next() {
            z = z * 1103515245 + 12345;
            return (z >>> 8) % 12 < tired;
        }
    }

    /**
     * The QUEUE of one SWING. It only goes round, so the one at a place always has the same one
     * behind it, and each place's TURN needs to be foreseen but once.
     */
    private static final class Line {
        private static final int NOBODY = -1;

        private final Numbers numbers;
        private final Play play;
        private final int swing;
        private final int[] queue = new int[CHILDREN_MOST];
        private final int[] seconds = new int[CHILDREN_MOST];
        private final int[] rounds = new int[CHILDREN_MOST];
        private final int[] often = new int[CHILDREN_MOST];
        int size;
        int end;

        Line(Numbers numbers, Play play, int swing) {
            this.numbers = numbers;
            this.play = play;
            this.swing = swing;
        }

        void form() {
            size = 0;
            for (int child = 0; child < CHILDREN_MOST; child++) {
                if (numbers.isChild(child) && numbers.valueOf(child, QUEUE) == swing) {
                    queue[size] = child;
                    size++;
                }
            }
            Arrays.fill(often, 0);
        }

        void swap(int one, int other) {
            int first = placeOf(one);
            int second = placeOf(other);
            if (first >= 0 && second >= 0) {
                queue[first] = other;
                queue[second] = one;
            }
        }

        void foresee() {
            for (int place = 0; place < size; place++) {
                int told = size > 1 ? queue[behind(place)] : AS_IT_IS;
                Turn t = play.think(swing, queue[place], told, size - 1);
                seconds[place] = t.seconds;
                rounds[place] = t.rounds;
            }
        }

        /** How long the one at a place lasts if the one at another counts, into a table that wide. */
        void foreseePairs(int[] lasting, int width) {
            for (int place = 0; place < size && place < width; place++) {
                for (int other = 0; other < size && other < width; other++) {
                    int at = place * width + other;
                    if (place != other && at < lasting.length) {
                        lasting[at] = play.think(swing, queue[place], queue[other], size - 1).seconds;
                    }
                }
            }
        }

        private int placeOf(int child) {
            for (int k = 0; k < size; k++) {
                if (queue[k] == child) {
                    return k;
                }
            }
            return -1;
        }

        private int behind(int place) {
            return place + 1 < size ? place + 1 : 0;
        }

        int childAt(int place) {
            return place >= 0 && place < size ? queue[place] : BAD;
        }

        int oftenOf(int child) {
            int place = placeOf(child);
            return place < 0 ? 0 : often[place];
        }

        int roundsOf(int child) {
            int place = placeOf(child);
            return place < 0 ? 0 : rounds[place];
        }

        /** When a CHILD's first TURN begins; NOT: it has none. */
        int beginOf(int child, int bell) {
            int time = 0;
            for (int place = 0; place < size; place++) {
                if (time + seconds[place] > bell) {
                    return NOT;
                }
                if (queue[place] == child) {
                    return time;
                }
                time += seconds[place];
            }
            return NOT;
        }

        boolean allBegin(int bell) {
            return size == 0 || beginOf(queue[size - 1], bell) >= 0;
        }

        /** An AFTERNOON, by draws if there are any; HOW OFTEN adds up until the QUEUE forms anew. */
        void spend(int bell, Draw draw) {
            int time = 0;
            int head = 0;
            for (int tries = 0; tries < BELL_MOST && size > 0; tries++) {
                boolean tired = draw != null && draw.next();
                if (!tired || size == 1) {
                    if (time + seconds[head] > bell) {
                        break;
                    }
                    time += seconds[head];
                    often[head]++;
                }
                head = behind(head);
            }
            end = time;
        }

        /** Here the QUEUE does not only go round, so nothing of it is foreseen; it must form anew then. */
        int oftenWhileHeld(int child, int m, int bell) {
            int time = 0;
            int times = 0;
            int away = 0;
            for (int tries = 0; tries < BELL_MOST; tries++) {
                int absent = away > 0 ? child : NOBODY;
                int place = passingOver(absent, 0);
                if (place >= size) {
                    break;
                }
                int next = passingOver(absent, place + 1);
                int told = next < size ? queue[next] : AS_IT_IS;
                int waiting = absent == NOBODY ? size - 1 : size - 2;
                time += play.think(swing, queue[place], told, waiting).seconds;
                if (time > bell) {
                    break;
                }
                if (queue[place] == child) {
                    times++;
                    away = times == 1 ? m : 0;
                } else if (away > 0) {
                    away--;
                }
                sendToEnd(place);
            }
            return times;
        }

        private int passingOver(int absent, int place) {
            return place < size && queue[place] == absent ? place + 1 : place;
        }

        private void sendToEnd(int place) {
            int gone = queue[place];
            for (int k = place; k + 1 < size; k++) {
                queue[k] = queue[k + 1];
            }
            queue[size - 1] = gone;
        }
    }

    /** The order by which a QUEUE waits least: all orders of its places are tried, by numbers. */
    private static final class Order {
        static final int MOST = 5;
        private static final int ORDERS = 120;

        final int[] lasting = new int[MOST * MOST];
        private final int[] tried = new int[MOST];
        private final int[] found = new int[MOST];
        private int size;
        int least;

        Order() {
        }

        void begin(int waiting) {
            size = Math.min(waiting, MOST);
            for (int place = 0; place < size; place++) {
                tried[place] = place;
            }
        }

        /** By the table of how long each lasts if another counts, which the QUEUE has filled. */
        void seek() {
            boolean more = true;
            for (int k = 0; k < ORDERS && more; k++) {
                int waits = waitsTogether();
                if (k == 0 || waits < least) {
                    least = waits;
                    System.arraycopy(tried, 0, found, 0, size);
                }
                more = goOn();
            }
        }

        int foundAt(int place) {
            return place >= 0 && place < size ? found[place] : 0;
        }

        private int waitsTogether() {
            int waits = 0;
            for (int k = 0; k + 1 < size; k++) {
                // all behind this one wait for its TURN
                waits += (size - 1 - k) * lasting[tried[k] * MOST + tried[k + 1]];
            }
            return waits;
        }

        /** The next order by numbers; false: that was the last. */
        private boolean goOn() {
            int grows = size - 2;
            while (grows >= 0 && tried[grows] > tried[grows + 1]) {
                grows--;
            }
            if (grows < 0) {
                return false;
            }
            int greater = size - 1;
            while (greater > grows && tried[greater] < tried[grows]) {
                greater--;
            }
            swap(grows, greater);
            for (int low = grows + 1, high = size - 1; low < high; low++, high--) {
                swap(low, high);
            }
            return true;
        }

        private void swap(int one, int other) {
            int kept = tried[one];
            tried[one] = tried[other];
            tried[other] = kept;
        }
    }

    /** The TURN in deed, and what is LED. */
    private static final class Deed {
        final Turn turn = new Turn();
        boolean busy;
        int turns, rounds, seconds, offs, top;
        int topChild = NOT;

        Deed() {
        }

        void lead(boolean over) {
            rounds++;
            seconds += turn.latest;
            if (turn.height > top) {
                top = turn.height;
                topChild = turn.child;
            }
            if (over) {
                turns++;
                busy = false;
            }
        }

        void copy(Deed other) {
            turn.copy(other.turn);
            busy = other.busy;
            turns = other.turns;
            rounds = other.rounds;
            seconds = other.seconds;
            offs = other.offs;
            top = other.top;
            topChild = other.topChild;
        }
    }

    /** BODIES, their KINDS, and THE TRACE of the latest act. */
    private static final class Bodies {
        static final int KINDS = 8;
        private static final int MOST = 50, TRACED = 24, ACTS = 4, DEPTH = 40;
        private static final int SWINGS_ACT = 0, COUNTS_ACT = 1, WAITS_ACT = 2, TELLS_ACT = 3;
        private static final int PLAIN = 1, STRETCHED = 2, HELPED = 3, COUNTED = 4, HELD = 5, SHORT = 6, LAST = 7;
        private static final int[] ABOVE = {-1, 0, 0, 2, 1, 3, 0, 6};
        // by KIND and ACT; what comes from the interfaces SWINGS and TELLS stands with TURN
        private static final int[] OWN = {
            1, 10, 11, 2,
            20, 0, 0, 0,
            0, 30, 0, 0,
            0, 41, 40, 0,
            0, 0, 0, 50,
            0, 0, 60, 61,
            70, 0, 0, 0,
            81, 80, 0, 0};

        private final int[] kinds = new int[MOST];
        int size;
        private final int[] traced = new int[TRACED];
        int ran;

        Bodies() {
        }

        int add(int kind) {
            if (!isKind(kind)) {
                return BAD;
            }
            if (size >= MOST) {
                return FULL;
            }
            kinds[size] = kind;
            size++;
            return size - 1;
        }

        private static boolean isKind(int kind) {
            return kind >= 0 && kind < KINDS;
        }

        boolean isBody(int number) {
            return number >= 0 && number < size;
        }

        /** -1: there is no such BODY. */
        int kindOf(int number) {
            return isBody(number) ? kinds[number] : -1;
        }

        boolean isUnder(int kind, int top) {
            int up = kind;
            for (int k = 0; k < KINDS && isKind(up); k++) {
                if (up == top) {
                    return true;
                }
                up = ABOVE[up];
            }
            return false;
        }

        int traceAt(int i) {
            return i >= 0 && i < ran && i < TRACED ? traced[i] : BAD;
        }

        int perform(int number, int act, int x) {
            ran = 0;
            if (!isBody(number) || act < 0 || act >= ACTS) {
                return 0;
            }
            return own(number, act, x, 0);
        }

        /** The body of that KIND, or of the next one above that has one. */
        private static int bodyFrom(int kind, int act) {
            int up = kind;
            for (int k = 0; k < KINDS && isKind(up); k++) {
                int body = OWN[up * ACTS + act];
                if (body != 0) {
                    return body;
                }
                up = ABOVE[up];
            }
            return 0;
        }

        private int own(int n, int act, int x, int depth) {
            return run(n, bodyFrom(kindOf(n), act), x, depth + 1);
        }

        private int above(int n, int kind, int act, int x, int depth) {
            return run(n, bodyFrom(ABOVE[kind], act), x, depth + 1);
        }

        private int run(int n, int body, int x, int depth) {
            if (depth > DEPTH) {
                return 0;
            }
            if (ran < TRACED) {
                traced[ran] = body;
            }
            ran++;
            switch (body) {
                case 1:
                    return x + n;
                case 2:
                    return own(n, COUNTS_ACT, x, depth) - own(n, WAITS_ACT, 1, depth);
                case 10:
                    return own(n, SWINGS_ACT, x, depth) * 2;
                case 11:
                    return x ^ n;
                case 20:
                    return above(n, PLAIN, SWINGS_ACT, x, depth) + 3;
                case 30:
                    return -above(n, STRETCHED, COUNTS_ACT, x, depth);
                case 40:
                    return above(n, HELPED, WAITS_ACT, x, depth) * 3;
                case 41:
                    return above(n, HELPED, COUNTS_ACT, x + 1, depth);
                case 50:
                    return above(n, COUNTED, TELLS_ACT, x, depth) ^ 5;
                case 60:
                    return above(n, HELD, WAITS_ACT, x, depth) - own(n, SWINGS_ACT, 2, depth);
                case 61:
                    return above(n, HELD, TELLS_ACT, x, depth) + 1;
                case 70:
                    return above(n, SHORT, SWINGS_ACT, x, depth) * 2;
                case 80:
                    return above(n, LAST, COUNTS_ACT, x, depth) + own(n, WAITS_ACT, 2, depth);
                case 81:
                    return above(n, LAST, SWINGS_ACT, x, depth) - 1;
                default:
                    return 0;
            }
        }
    }

    /** SHELVES, each with a place of its own for a ROW, so that no call makes one anew. */
    private static final class Shelves {
        static final int SORTS = 5, PLACES = 60;
        private static final int ALL = 6;
        private static final int NOTHING = 0, BODY = 1, ROW = 2;
        private static final int SHORTS = 1, INTS = 2, LONGS = 3;

        private final int[] holds = new int[ALL];
        private final int[] held = new int[ALL];
        private final int[] sorts = new int[ALL];
        private final int[] sizes = new int[ALL];
        private final long[] elements = new long[ALL * PLACES];

        Shelves() {
        }

        boolean isShelf(int shelf) {
            return shelf >= 0 && shelf < ALL;
        }

        boolean isEmpty(int shelf) {
            return isShelf(shelf) && holds[shelf] == NOTHING;
        }

        private boolean isRow(int shelf) {
            return isShelf(shelf) && holds[shelf] == ROW;
        }

        boolean areLikeRows(int shelf, int other) {
            return isRow(shelf) && isRow(other) && sorts[shelf] == sorts[other];
        }

        /** 0: a ROW of bytes is there. */
        int refusalOfBytes(int shelf) {
            if (isEmpty(shelf)) {
                return NOTHING_THERE;
            }
            return isRow(shelf) && sorts[shelf] == BYTES ? 0 : OTHER_KIND;
        }

        /** 0: a ROW is there, and that place. */
        int refusalAt(int shelf, int i) {
            if (!isShelf(shelf)) {
                return BAD;
            }
            if (isEmpty(shelf)) {
                return NOTHING_THERE;
            }
            if (!isRow(shelf)) {
                return OTHER_KIND;
            }
            return hasPlaces(shelf, i, 1) ? 0 : NO_PLACE;
        }

        int sizeOf(int shelf) {
            return isRow(shelf) ? sizes[shelf] : 0;
        }

        /** Whether n places from i on are there; none may be asked for at the very end. */
        boolean hasPlaces(int shelf, int i, int n) {
            int size = sizeOf(shelf);
            return i >= 0 && n >= 0 && i <= size && n <= size - i;
        }

        void hold(int shelf, int number) {
            if (isShelf(shelf)) {
                holds[shelf] = number < 0 ? NOTHING : BODY;
                held[shelf] = number;
            }
        }

        /** -1: no BODY is there. */
        int bodyOn(int shelf) {
            return isShelf(shelf) && holds[shelf] == BODY ? held[shelf] : -1;
        }

        void layRow(int shelf, int sort, int n) {
            if (isShelf(shelf) && n >= 0 && n <= PLACES) {
                holds[shelf] = ROW;
                sorts[shelf] = sort;
                sizes[shelf] = n;
                Arrays.fill(elements, shelf * PLACES, shelf * PLACES + n, 0L);
            }
        }

        long elementAt(int shelf, int i) {
            return hasPlaces(shelf, i, 1) ? elements[shelf * PLACES + i] : 0L;
        }

        void setElement(int shelf, int i, long v) {
            if (hasPlaces(shelf, i, 1)) {
                elements[shelf * PLACES + i] = cut(sorts[shelf], v);
            }
        }

        private static long cut(int sort, long v) {
            switch (sort) {
                case BYTES:
                    return (byte) v;
                case SHORTS:
                    return (short) v;
                case INTS:
                    return (int) v;
                case LONGS:
                    return v;
                default:
                    return v != 0L ? 1L : 0L;
            }
        }

        void move(int shelf, int i, int other, int j, int n) {
            if (hasPlaces(shelf, i, n) && hasPlaces(other, j, n)) {
                System.arraycopy(elements, shelf * PLACES + i, elements, other * PLACES + j, n);
            }
        }
    }
}
