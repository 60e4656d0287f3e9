import java.util.ArrayDeque;
import java.util.ArrayList;
import java.util.Arrays;
import java.util.Deque;
import java.util.List;
import java.util.Random;
import java.util.regex.Matcher;
import java.util.regex.Pattern;

/** Long runs of drawn calls on the class and on a naive model of the same promises, written another way. */
public final class ModelTest {
    private static final int RUNS = 1000, CALLS = 512;
    private static final int BAD = -1, NOT = -2, FULL = -3, STATE = -5, VOID = -2000000000;

    private static int wrong = 0;
    private static int refused = 0;
    private static int all = 0;

    public static void main(String[] args) {
        for (int run = 0; run < RUNS && wrong < 20; run++) {
            oneRun(run);
        }
        System.out.println(all + " calls, " + refused + " of them refused, " + wrong + " not as in the model");
        if (wrong != 0) {
            System.exit(1);
        }
    }

    private static void oneRun(int run) {
        Driver driver = new Driver(new Random(run));
        List<String> told = new ArrayList<>();
        int before = wrong;
        for (int call = 0; call < CALLS && wrong == before; call++) {
            driver.next();
            all++;
            told.add(driver.told + " answered " + driver.got + ", due is " + driver.due);
            if (driver.due < 0) {
                refused++;
            }
            if (driver.got != driver.due) {
                wrong++;
                System.out.println("run " + run + ":");
                told.subList(0, Math.max(0, told.size() - 60)).clear();
                told.forEach(row -> System.out.println("  " + row));
            }
        }
    }

    /** Draws a call and makes it on both. */
    private static final class Driver {
        private final Random random;
        private final TwentyPushes real = new TwentyPushes();
        private final Model model = new Model();
        private final Deque<Integer> letters = new ArrayDeque<>();
        private final boolean wild;
        private final boolean spoilt;
        private final boolean lively;
        String told;
        long got, due;

        Driver(Random random) {
            this.random = random;
            wild = random.nextInt(10) == 0;
            spoilt = random.nextInt(4) == 0;
            lively = random.nextInt(3) == 0;
        }

        /** Mostly within low .. high, at times just beside, in wild runs anything at all. */
        private int in(int low, int high) {
            if (wild && random.nextInt(8) == 0) {
                int[] odd = {Integer.MIN_VALUE, Integer.MAX_VALUE, -1, 1 << 16, random.nextInt(), Integer.MIN_VALUE + 1};
                return odd[random.nextInt(odd.length)];
            }
            if (spoilt && random.nextInt(12) == 0) {
                return random.nextBoolean() ? low - 1 : high + 1;
            }
            return low + random.nextInt(high - low + 1);
        }

        private int some(int... choices) {
            return choices[random.nextInt(choices.length)];
        }

        private int bell() {
            return random.nextInt(3) == 0 ? in(1, 3600) : in(1, some(30, 200, 600, 1500));
        }

        private int child() {
            return in(0, Math.max(0, model.children.size() - 1));
        }

        private int shelf() {
            return random.nextBoolean() ? in(0, 1) : in(0, 5);
        }

        private int sc() {
            int who = random.nextBoolean() ? 9 : child();
            return in(0, 2) * 100 + child() * 10 + who;
        }

        void next() {
            if (!letters.isEmpty()) {
                int letter = letters.poll();
                if (letter < 0) {
                    say("law()", real.law(), model.law());
                } else {
                    say("feed(" + letter + ")", real.feed(letter), model.feed(letter));
                }
                return;
            }
            if (model.children.size() < 4 && random.nextInt(3) == 0) {
                come();
                return;
            }
            if (lively && model.children.size() > 1 && random.nextInt(4) > 0) {
                deedsAmidMending();
                return;
            }
            switch (random.nextInt(6)) {
                case 0: numbersOrLaw(); break;
                case 1: turns(); break;
                case 2: afternoons(); break;
                case 3: squeals(); break;
                case 4: deeds(); break;
                default: actsAndShelves();
            }
        }

        private void say(String call, long answered, long wanted) {
            told = call;
            got = answered;
            due = wanted;
        }

        private void come() {
            int wl = in(1, 9) * 10 + in(0, 3);
            int queue = some(0, 0, 0, 1, 1, 2, in(0, 3));
            say("child(" + wl + ", " + queue + ")", real.child(wl, queue), model.child(wl, queue));
        }

        private void numbersOrLaw() {
            int kind = random.nextInt(8);
            if (kind == 0) {
                come();
            } else if (kind < 5) {
                int what = in(0, 10);
                int number = what < 6 ? child() : what == 6 ? in(0, 2) : spoilt ? in(0, 1) : 0;
                int[] most = {9, 3, 9, 3, 9, 3, 9, 3, 30, 200, 12};
                int v = in(0, what >= 0 && what <= 10 ? most[what] : 9);
                if (what == 8 && random.nextInt(3) > 0) {
                    v = in(1, 5);
                }
                mend(number, what, v);
            } else if (kind == 5) {
                int what = in(0, 10);
                int number = in(0, 8);
                say("of(" + number + ", " + what + ")", real.of(number, what), model.of(number, what));
            } else if (kind == 6 && random.nextInt(2) == 0) {
                if (model.count(1) > 0) {
                    letters.add(-1);
                }
                String text = new Texts(random).text();
                for (int k = 0; k < text.length(); k++) {
                    letters.add((int) text.charAt(k));
                }
                letters.add(-1);
                next();
            } else if (kind == 6) {
                come();
            } else if (random.nextInt(3) > 0) {
                say("count(1)", real.count(1), model.count(1));
            } else {
                int letter = in(0, 255);
                say("feed(" + letter + ")", real.feed(letter), model.feed(letter));
                if (random.nextInt(3) == 0) {
                    letters.add(-1);
                }
            }
        }

        private void turns() {
            int sc = sc();
            int q = in(0, 8);
            switch (random.nextInt(4)) {
                case 0:
                    int what = in(0, 3);
                    say("turn(" + sc + ", " + q + ", " + what + ")", real.turn(sc, q, what), model.turn(sc, q, what));
                    break;
                case 1: say("longest(" + sc + ", " + q + ")", real.longest(sc, q), model.longest(sc, q)); break;
                case 2: say("counter(" + sc + ", " + q + ")", real.counter(sc, q), model.counter(sc, q)); break;
                default: say("unfair(" + sc + ", " + q + ")", real.unfair(sc, q), model.unfair(sc, q));
            }
        }

        private void afternoons() {
            int bell = bell();
            int child = child();
            int what = in(0, 2);
            switch (random.nextInt(8)) {
                case 0:
                    say("afternoon(" + bell + ", " + child + ", " + what + ")", real.afternoon(bell, child, what), model.afternoon(bell, child, what));
                    break;
                case 1:
                    int swing = in(-1, 2);
                    say("been(" + bell + ", " + swing + ")", real.been(bell, swing), model.been(bell, swing));
                    break;
                case 2:
                    what = in(0, 1);
                    say("join(" + bell + ", " + child + ", " + what + ")", real.join(bell, child, what), model.join(bell, child, what));
                    break;
                case 3: say("each(" + bell + ")", real.each(bell), model.each(bell)); break;
                case 4:
                    int on = in(0, 2);
                    int place = in(-1, 6);
                    say("order(" + on + ", " + place + ")", real.order(on, place), model.order(on, place));
                    break;
                case 5:
                    int cm = child * 10 + in(0, 9);
                    say("held(" + bell + ", " + cm + ")", real.held(bell, cm), model.held(bell, cm));
                    break;
                case 6:
                    int ab = child * 10 + child();
                    say("trade(" + bell + ", " + ab + ")", real.trade(bell, ab), model.trade(bell, ab));
                    break;
                default:
                    int seed = random.nextInt();
                    int n = in(1, 10);
                    int asked = random.nextBoolean() ? -1 : child;
                    say("drawn(" + seed + ", " + n + ", " + bell + ", " + asked + ")", real.drawn(seed, n, bell, asked), model.drawn(seed, n, bell, asked));
            }
        }

        private void squeals() {
            int shelf = shelf();
            int sc = sc();
            int q = in(0, 8);
            if (random.nextInt(3) == 0) {
                layTrueRow(shelf, sc, q);
            }
            switch (random.nextInt(3)) {
                case 0: say("judge(" + shelf + ", " + sc + ", " + q + ")", real.judge(shelf, sc, q), model.judge(shelf, sc, q)); break;
                case 1:
                    int sw = sc / 100 * 10 + sc % 10;
                    say("who(" + shelf + ", " + sw + ", " + q + ")", real.who(shelf, sw, q), model.who(shelf, sw, q));
                    break;
                default: say("sure(" + shelf + ", " + sc + ", " + q + ")", real.sure(shelf, sc, q), model.sure(shelf, sc, q));
            }
        }

        /** Squeals as they would be, at times with one more, less or other. */
        private void layTrueRow(int shelf, int sc, int q) {
            if (shelf < 0 || shelf > 5 || !model.isTold(sc, q)) {
                return;
            }
            List<Integer> rounds = model.rounds(sc / 100, sc / 10 % 10, sc % 10, q);
            int size = Math.max(0, Math.min(60, rounds.size() + some(0, 0, 0, 1, -1)));
            real.row(shelf, 0, size);
            model.row(shelf, 0, size);
            for (int k = 0; k < size; k++) {
                int v = k < rounds.size() ? rounds.get(k) : 5;
                if (random.nextInt(80) == 0) {
                    v++;
                }
                real.put(shelf, k, v);
                model.put(shelf, k, v);
            }
        }

        private void deeds() {
            switch (random.nextInt(14)) {
                case 0: case 1:
                    int sc = sc();
                    say("on(" + sc + ")", real.on(sc), model.on(sc));
                    break;
                case 2: say("off()", real.off(), model.off()); break;
                case 3: case 4:
                    int what = in(0, 7);
                    say("led(" + what + ")", real.led(what), model.led(what));
                    break;
                case 5: say("image()", real.image(), model.image()); break;
                case 6: say("back()", real.back(), model.back()); break;
                case 7: say("undo()", real.undo(), model.undo()); break;
                case 8: say("redo()", real.redo(), model.redo()); break;
                default: say("push()", real.push(), model.push());
            }
        }

        /** TURNS in deed that go on while the one who counts, and what ends them, is mended. */
        private void deedsAmidMending() {
            int counts = model.deed[2];
            if (model.deed[0] < 0) {
                int child = random.nextInt(model.children.size());
                int other = (child + 1 + random.nextInt(model.children.size() - 1)) % model.children.size();
                int sc = random.nextInt(3) * 100 + child * 10 + (random.nextInt(8) == 0 ? 9 : other);
                say("on(" + sc + ")", real.on(sc), model.on(sc));
                return;
            }
            switch (random.nextInt(12)) {
                case 0: mend(counts, 3, in(0, 3)); break;
                case 1: mend(counts, 4, some(9, 9, model.deed[1], child())); break;
                case 2: mend(0, 8, some(in(1, 30), in(20, 30))); break;
                case 3: mend(0, 9, some(0, 0, in(0, 200))); break;
                case 4: mend(model.deed[1], in(0, 2), in(0, 9)); break;
                case 5: say("led(7)", real.led(7), model.led(7)); break;
                case 6: deeds(); break;
                default: say("push()", real.push(), model.push());
            }
        }

        private void mend(int number, int what, int v) {
            say("mend(" + number + ", " + what + ", " + v + ")", real.mend(number, what, v), model.mend(number, what, v));
        }

        private void actsAndShelves() {
            int shelf = shelf();
            int i = in(0, some(3, 20, 60));
            int other = shelf();
            switch (random.nextInt(11)) {
                case 0:
                    int kind = in(0, 7);
                    say("body(" + kind + ")", real.body(kind), model.body(kind));
                    break;
                case 1:
                    int act = in(0, 3);
                    int x = random.nextBoolean() ? random.nextInt() : in(-9, 9);
                    int body = in(0, Math.max(0, model.bodies.size() - 1));
                    say("act(" + body + ", " + act + ", " + x + ")", real.act(body, act, x), model.act(body, act, x));
                    break;
                case 2: say("trace(" + i + ")", real.trace(i), model.trace(i)); break;
                case 3:
                    int kept = in(-1, Math.max(0, model.bodies.size() - 1));
                    say("keep(" + shelf + ", " + kept + ")", real.keep(shelf, kept), model.keep(shelf, kept));
                    break;
                case 4:
                    int sort = some(0, 0, in(0, 4));
                    say("row(" + shelf + ", " + sort + ", " + i + ")", real.row(shelf, sort, i), model.row(shelf, sort, i));
                    break;
                case 5:
                    long v = random.nextBoolean() ? random.nextLong() : in(0, 9);
                    say("put(" + shelf + ", " + i + ", " + v + ")", real.put(shelf, i, v), model.put(shelf, i, v));
                    break;
                case 6: say("element(" + shelf + ", " + i + ")", real.element(shelf, i), model.element(shelf, i)); break;
                case 7:
                    int j = in(0, some(3, 20, 60));
                    int n = in(0, some(3, 20));
                    say("shift(" + shelf + ", " + i + ", " + other + ", " + j + ", " + n + ")",
                            real.shift(shelf, i, other, j, n), model.shift(shelf, i, other, j, n));
                    break;
                case 8:
                    int k = in(0, 7);
                    say("taken(" + shelf + ", " + k + ")", real.taken(shelf, k), model.taken(shelf, k));
                    break;
                case 9:
                    int what = in(0, 4);
                    say("count(" + what + ")", real.count(what), model.count(what));
                    break;
                default:
                    childrenFromRow(shelf);
            }
        }

        private void childrenFromRow(int shelf) {
            int i = in(0, 6);
            int n = in(1, 9);
            if (random.nextBoolean()) {
                int size = random.nextInt(20);
                real.row(shelf, 0, size);
                model.row(shelf, 0, size);
            }
            for (int k = 0; k < 20; k++) {
                int v = k % 3 == i % 3 ? in(1, 9) : in(0, 3);
                real.put(shelf, k, v);
                model.put(shelf, k, v);
            }
            say("children(" + shelf + ", " + i + ", " + n + ")", real.children(shelf, i, n), model.children(shelf, i, n));
        }
    }

    /** Texts for THE LAW: most are whole, some are broken. */
    private static final class Texts {
        private final Random random;
        private int budget = 60;

        Texts(Random random) {
            this.random = random;
        }

        String text() {
            StringBuilder text = new StringBuilder();
            int lines = 1 + random.nextInt(3);
            for (int k = 0; k < lines; k++) {
                if (k > 0) {
                    text.append(';');
                }
                if (k + 1 < lines || random.nextInt(4) == 0) {
                    text.append(expression()).append('?');
                }
                text.append(expression());
            }
            if (random.nextInt(4) == 0) {
                spoil(text);
            }
            return text.length() > 120 ? text.substring(0, 120) : text.toString();
        }

        private String expression() {
            StringBuilder text = new StringBuilder(operand());
            int more = random.nextInt(4);
            String signs = "|&<=>+-*/%+-*/%";
            for (int k = 0; k < more; k++) {
                char sign = signs.charAt(random.nextInt(signs.length()));
                text.append(sign).append(operand());
                // a second comparison in a B is a fault: most texts are to be whole
                if ("<=>".indexOf(sign) >= 0 && random.nextInt(8) > 0) {
                    signs = "+-*/%&|";
                }
            }
            return text.toString();
        }

        private String operand() {
            budget--;
            int kind = random.nextInt(budget > 0 ? 9 : 5);
            if (kind < 3) {
                return String.valueOf("hswrqp".charAt(random.nextInt(6)));
            }
            if (kind < 5) {
                return String.valueOf(random.nextInt(random.nextInt(4) == 0 ? 10000 : 12));
            }
            if (kind < 7) {
                return "(" + expression() + ")";
            }
            return (kind == 7 ? "!" : "-") + operand();
        }

        private void spoil(StringBuilder text) {
            String letters = "hswrqp0123456789|&<=>+-*/%!()?;x ";
            int at = random.nextInt(text.length() + 1);
            char letter = random.nextInt(20) == 0 ? (char) random.nextInt(256) : letters.charAt(random.nextInt(letters.length()));
            if (random.nextBoolean() || at == text.length()) {
                text.insert(at, letter);
            } else {
                text.deleteCharAt(at);
            }
        }
    }

    /** Whether a text is a TEXT, by putting shorter signs for longer ones; A .. G: an O with 0 .. 6 open in it. */
    private static final class Grammar {
        private static final String O = "[A-G]";
        private static final String S = O + "(?:[-+*/%]" + O + ")*";
        private static final String B = S + "(?:[<=>]" + S + ")?";
        private static final String E = B + "(?:[|&]" + B + ")*";
        private static final String LINE = E + "(?:\\?" + E + ")?";
        private static final Pattern TEXT = Pattern.compile(LINE + "(?:;" + LINE + ")*");
        private static final Pattern BRACKET = Pattern.compile("\\((" + E + ")\\)");
        private static final Pattern SIGNED = Pattern.compile("(?<![A-G)])[!-]([A-F])");

        static boolean isText(String text) {
            if (!text.matches("[-hswrqp0-9|&<=>+*/%!()?;]*")) {
                return false;
            }
            String now = text.replaceAll("(?<![0-9])[0-9]{1,4}(?![0-9])", "A").replaceAll("[hswrqp]", "A");
            for (;;) {
                String next = SIGNED.matcher(now).replaceAll(m -> up(m.group(1)));
                Matcher bracket = BRACKET.matcher(next);
                next = bracket.replaceFirst(m -> up(m.group(1)));
                if (next.equals(now)) {
                    return TEXT.matcher(now).matches();
                }
                now = next;
            }
        }

        /** An O around that: one more is open; with 7 there is no sign for it. */
        private static String up(String inner) {
            int most = inner.chars().filter(c -> c >= 'A' && c <= 'G').max().getAsInt();
            return String.valueOf((char) (most == 'G' ? '#' : most + 1));
        }

        static boolean goesOn(String start) {
            for (String operand : new String[] {"", "1"}) {
                String text = start + operand;
                for (int k = 0; k <= 6; k++) {
                    if (isText(text)) {
                        return true;
                    }
                    text += ")";
                }
            }
            return false;
        }

        /** -1: none. */
        static int fault(String text) {
            if (isText(text)) {
                return -1;
            }
            for (int k = 0; k < text.length(); k++) {
                if (!goesOn(text.substring(0, k + 1))) {
                    return k;
                }
            }
            return text.length();
        }

        static int worth(String text, int[] names) {
            for (String line : text.split(";")) {
                String[] parts = line.split("\\?");
                int value = value(parts[parts.length - 1], names);
                if (parts.length == 1 || value(parts[0], names) != 0) {
                    return value;
                }
            }
            return 0;
        }

        private static int value(String text, int[] names) {
            for (String signs : new String[] {"|", "&", "<=>", "+-", "*/%"}) {
                int at = lastOf(text, signs);
                if (at >= 0) {
                    return join(text.charAt(at), value(text.substring(0, at), names), value(text.substring(at + 1), names));
                }
            }
            char first = text.charAt(0);
            if (first == '!') {
                return value(text.substring(1), names) == 0 ? 1 : 0;
            }
            if (first == '-') {
                return -value(text.substring(1), names);
            }
            if (first == '(') {
                return value(text.substring(1, text.length() - 1), names);
            }
            int name = "hswrqp".indexOf(first);
            return name >= 0 ? names[name] : Integer.parseInt(text);
        }

        /** The last of these signs that stands between two operands outside of brackets. */
        private static int lastOf(String text, String signs) {
            int open = 0;
            for (int k = text.length() - 1; k > 0; k--) {
                char c = text.charAt(k);
                open += c == ')' ? 1 : c == '(' ? -1 : 0;
                if (open == 0 && signs.indexOf(c) >= 0 && "hswrqp0123456789)".indexOf(text.charAt(k - 1)) >= 0) {
                    return k;
                }
            }
            return -1;
        }

        private static int join(char sign, int a, int b) {
            switch (sign) {
                case '|': return a != 0 | b != 0 ? 1 : 0;
                case '&': return a != 0 & b != 0 ? 1 : 0;
                case '<': return a < b ? 1 : 0;
                case '=': return a == b ? 1 : 0;
                case '>': return a > b ? 1 : 0;
                case '+': return a + b;
                case '-': return a - b;
                case '*': return a * b;
                case '/': return b == 0 ? 0 : (int) ((long) a / b);
                default: return b == 0 ? 0 : (int) ((long) a % b);
            }
        }
    }

    interface SwingsFirst {
        int number();
        void ran(int body);
        default int swings(int x) { ran(1); return x + number(); }
    }

    interface TellsLast {
        int counts(int x);
        int waits(int x);
        void ran(int body);
        default int tells(int x) { ran(2); return counts(x) - waits(1); }
    }

    static class TurnBody implements SwingsFirst, TellsLast {
        final List<Integer> trace;
        final int n;
        TurnBody(List<Integer> trace, int n) { this.trace = trace; this.n = n; }
        public int number() { return n; }
        public void ran(int body) { trace.add(body); }
        public int counts(int x) { ran(10); return swings(x) * 2; }
        public int waits(int x) { ran(11); return x ^ n; }
    }

    static class Plain extends TurnBody {
        Plain(List<Integer> trace, int n) { super(trace, n); }
        public int swings(int x) { ran(20); return super.swings(x) + 3; }
    }

    static class Stretched extends TurnBody {
        Stretched(List<Integer> trace, int n) { super(trace, n); }
        public int counts(int x) { ran(30); return -super.counts(x); }
    }

    static class Helped extends Stretched {
        Helped(List<Integer> trace, int n) { super(trace, n); }
        public int waits(int x) { ran(40); return super.waits(x) * 3; }
        public int counts(int x) { ran(41); return super.counts(x + 1); }
    }

    static class Counted extends Plain {
        Counted(List<Integer> trace, int n) { super(trace, n); }
        public int tells(int x) { ran(50); return super.tells(x) ^ 5; }
    }

    static class Held extends Helped {
        Held(List<Integer> trace, int n) { super(trace, n); }
        public int waits(int x) { ran(60); return super.waits(x) - swings(2); }
        public int tells(int x) { ran(61); return super.tells(x) + 1; }
    }

    static class Short extends TurnBody {
        Short(List<Integer> trace, int n) { super(trace, n); }
        public int swings(int x) { ran(70); return super.swings(x) * 2; }
    }

    static class Last extends Short {
        Last(List<Integer> trace, int n) { super(trace, n); }
        public int counts(int x) { ran(80); return super.counts(x) + waits(2); }
        public int swings(int x) { ran(81); return super.swings(x) - 1; }
    }

    /** The model: everything is worked out anew, with whatever the library has. */
    private static final class Model {
        final List<int[]> children = new ArrayList<>();
        final int[] lengths = {6, 6, 6};
        final int[] rules = {2, 20, 0, 0};
        private final List<int[]> done = new ArrayList<>();
        private final List<int[]> undone = new ArrayList<>();
        private StringBuilder tape = new StringBuilder();
        private String law = null;

        int[] row(int number, int what) {
            if (what < 0 || what > 10) {
                return null;
            }
            if (what < 6) {
                return number >= 0 && number < children.size() ? children.get(number) : null;
            }
            if (what == 6) {
                return number >= 0 && number < 3 ? lengths : null;
            }
            return number == 0 ? rules : null;
        }

        int column(int number, int what) {
            return what < 6 ? what : what == 6 ? number : what - 7;
        }

        int child(int wl, int queue) {
            if (wl < 10 || wl > 99 || wl % 10 > 3 || queue < 0 || queue > 3) {
                return BAD;
            }
            if (children.size() == 9) {
                return FULL;
            }
            children.add(new int[] {wl / 10, wl % 10, 9, 0, 9, queue});
            return children.size() - 1;
        }

        int mend(int number, int what, int v) {
            int[] row = row(number, what);
            if (row == null) {
                return BAD;
            }
            boolean fits;
            switch (what) {
                case 0: case 6: fits = v >= 1 && v <= 9; break;
                case 1: case 3: case 5: case 7: fits = v >= 0 && v <= 3; break;
                case 2: fits = v >= 0 && v <= 9; break;
                case 4: fits = v == 9 || (v >= 0 && v < children.size() && v != number); break;
                case 8: fits = v >= 1 && v <= 30; break;
                case 9: fits = v >= 0 && v <= 200; break;
                default: fits = v >= 0 && v <= 12;
            }
            if (!fits) {
                return BAD;
            }
            int was = row[column(number, what)];
            if (was != v) {
                row[column(number, what)] = v;
                undone.clear();
                done.add(new int[] {number, what, was, v});
                if (done.size() > 40) {
                    done.remove(0);
                }
            }
            return was;
        }

        int of(int number, int what) {
            int[] row = row(number, what);
            return row == null ? BAD : row[column(number, what)];
        }

        int undo() {
            if (done.isEmpty()) {
                return STATE;
            }
            int[] change = done.remove(done.size() - 1);
            row(change[0], change[1])[column(change[0], change[1])] = change[2];
            undone.add(change);
            return done.size();
        }

        int redo() {
            if (undone.isEmpty()) {
                return STATE;
            }
            int[] change = undone.remove(undone.size() - 1);
            row(change[0], change[1])[column(change[0], change[1])] = change[3];
            done.add(change);
            return undone.size();
        }

        int feed(int letter) {
            if (letter < 0 || letter > 255) {
                return BAD;
            }
            if (tape.length() == 120) {
                return FULL;
            }
            tape.append((char) letter);
            return tape.length();
        }

        int law() {
            String text = tape.toString();
            tape = new StringBuilder();
            int fault = Grammar.fault(text);
            if (fault >= 0) {
                return -100 - fault;
            }
            law = text;
            return 1;
        }

        // ---- turns

        boolean isCounter(int who, int child) {
            return who == 9 || (who >= 0 && who < children.size() && who != child);
        }

        boolean isTold(int sc, int q) {
            return sc >= 0 && sc < 300 && sc / 10 % 10 < children.size() && isCounter(sc % 10, sc / 10 % 10) && q >= 0 && q <= 8;
        }

        int risen(int height, int child) {
            int[] c = children.get(child);
            int h = height + rules[0] + c[1] - c[0] / 3;
            if (h < 0) {
                h = 0;
            }
            return h > c[2] ? c[2] : h;
        }

        int lasts(int height, int swing, int child, int round, int q) {
            if (law == null) {
                return lengths[swing] + height / 3 + 1;
            }
            int worth = Grammar.worth(law, new int[] {height, lengths[swing], children.get(child)[0], round, q, rules[0]});
            return worth < 1 ? 1 : worth > 20 ? 20 : worth;
        }

        int counted(int n, int who, int child) {
            int bent = who == 9 ? 0 : children.get(who)[4] == child ? 1 : children.get(who)[3];
            if (bent == 3) {
                return n == 0 || n % 10 == 0 ? n : counted(n - 1, who, child);
            }
            int[] ways = {n, n - n / 3, n + n / 4};
            return ways[bent];
        }

        /** rounds, seconds, greatest height, counted. */
        int[] whole(int swing, int child, int who, int q, List<Integer> heard) {
            int height = 0, top = 0, counted = 0, seconds = 0, n = 0;
            do {
                height = risen(height, child);
                int lasts = lasts(height, swing, child, n, q);
                heard.add(lasts);
                n++;
                seconds += lasts;
                top = Math.max(top, height);
                counted = counted(n, who, child);
            } while (n < 60 && counted < rules[1] && !(rules[2] > 0 && seconds >= rules[2]));
            return new int[] {n, seconds, top, counted};
        }

        int seconds(int swing, int child, int who, int q) {
            return whole(swing, child, who, q, new ArrayList<>())[1];
        }

        List<Integer> rounds(int swing, int child, int who, int q) {
            List<Integer> heard = new ArrayList<>();
            whole(swing, child, who, q, heard);
            return heard;
        }

        int turn(int sc, int q, int what) {
            if (!isTold(sc, q) || what < 0 || what > 3) {
                return BAD;
            }
            return whole(sc / 100, sc / 10 % 10, sc % 10, q, new ArrayList<>())[what];
        }

        int longest(int sc, int q) {
            if (!isTold(sc, q)) {
                return BAD;
            }
            int[] c = children.get(sc / 10 % 10);
            int own = c[2];
            int[] lasts = new int[10];
            for (int cap = 0; cap < 10; cap++) {
                c[2] = cap;
                lasts[cap] = seconds(sc / 100, sc / 10 % 10, sc % 10, q);
            }
            c[2] = own;
            int most = Arrays.stream(lasts).max().getAsInt();
            for (int cap = 0; ; cap++) {
                if (lasts[cap] == most) {
                    return cap;
                }
            }
        }

        int counter(int sc, int q) {
            if (!isTold(sc, q)) {
                return BAD;
            }
            int best = 9;
            for (int who = children.size() - 1; who >= 0; who--) {
                if (who != sc / 10 % 10 && seconds(sc / 100, sc / 10 % 10, who, q) >= seconds(sc / 100, sc / 10 % 10, best, q)) {
                    best = who;
                }
            }
            return best;
        }

        int unfair(int sc, int q) {
            return isTold(sc, q) ? turn(sc, q, 0) - rules[1] : VOID;
        }

        // ---- afternoons

        boolean isBell(int bell) {
            return bell >= 1 && bell <= 3600;
        }

        boolean isChild(int child) {
            return child >= 0 && child < children.size();
        }

        ArrayDeque<Integer> queue(int swing) {
            ArrayDeque<Integer> queue = new ArrayDeque<>();
            for (int c = 0; c < children.size(); c++) {
                if (children.get(c)[5] == swing) {
                    queue.add(c);
                }
            }
            return queue;
        }

        /** TURNS one behind the other: CHILD, begin, end, rounds. */
        List<int[]> turnsOn(int swing, ArrayDeque<Integer> queue, int bell, int[] z) {
            List<int[]> turns = new ArrayList<>();
            int time = 0;
            java.util.Map<Integer, int[]> known = new java.util.HashMap<>();
            for (int tries = 0; tries < 3600 && !queue.isEmpty(); tries++) {
                int child = queue.poll();
                if (z != null) {
                    z[0] = z[0] * 1103515245 + 12345;
                    if ((z[0] >>> 8) % 12 < rules[3] && !queue.isEmpty()) {
                        queue.add(child);
                        continue;
                    }
                }
                int who = queue.isEmpty() ? 9 : queue.peek();
                int q = queue.size();
                int[] whole = known.computeIfAbsent(child, c -> whole(swing, c, who, q, new ArrayList<>()));
                if (time + whole[1] > bell) {
                    break;
                }
                turns.add(new int[] {child, time, time + whole[1], whole[0]});
                time += whole[1];
                queue.add(child);
            }
            return turns;
        }

        List<int[]> allTurns(int bell) {
            List<int[]> turns = new ArrayList<>();
            for (int swing = 0; swing < 3; swing++) {
                turns.addAll(turnsOn(swing, queue(swing), bell, null));
            }
            return turns;
        }

        int waited(List<int[]> turns, int child) {
            return turns.stream().filter(t -> t[0] == child).mapToInt(t -> t[1]).findFirst().orElse(NOT);
        }

        int afternoon(int bell, int child, int what) {
            if (!isBell(bell) || !isChild(child) || what < 0 || what > 2) {
                return BAD;
            }
            List<int[]> turns = allTurns(bell);
            if (what == 1) {
                return waited(turns, child);
            }
            return turns.stream().filter(t -> t[0] == child).mapToInt(t -> what == 0 ? 1 : t[3]).sum();
        }

        int been(int bell, int swing) {
            if (!isBell(bell) || swing < -1 || swing > 2) {
                return BAD;
            }
            if (swing >= 0) {
                return turnsOn(swing, queue(swing), bell, null).stream().mapToInt(t -> t[2]).max().orElse(0);
            }
            int bits = 0;
            List<int[]> turns = allTurns(bell);
            for (int c = 0; c < children.size(); c++) {
                bits += waited(turns, c) == NOT ? 1 << c : 0;
            }
            return bits;
        }

        int join(int bell, int child, int what) {
            if (!isBell(bell) || !isChild(child) || what < 0 || what > 1) {
                return BAD;
            }
            int own = children.get(child)[5];
            int best = NOT;
            int at = NOT;
            for (int swing = 2; swing >= 0; swing--) {
                children.get(child)[5] = swing;
                int waits = waited(allTurns(bell), child);
                if (waits != NOT && (at == NOT || waits <= best)) {
                    best = waits;
                    at = swing;
                }
            }
            children.get(child)[5] = own;
            return what == 0 ? at : best;
        }

        int each(int bell) {
            if (!isBell(bell)) {
                return BAD;
            }
            int own = rules[1];
            int found = NOT;
            for (int pushes = 1; pushes <= 30; pushes++) {
                rules[1] = pushes;
                List<int[]> turns = allTurns(bell);
                boolean all = true;
                for (int c = 0; c < children.size(); c++) {
                    all &= children.get(c)[5] == 3 || waited(turns, c) != NOT;
                }
                found = all ? pushes : found;
            }
            rules[1] = own;
            return found;
        }

        private int least;
        private List<Integer> leastOrder;

        int order(int swing, int place) {
            if (swing < 0 || swing > 2 || place < -1 || place >= queue(swing).size()) {
                return BAD;
            }
            if (queue(swing).size() > 5) {
                return STATE;
            }
            least = Integer.MAX_VALUE;
            tryOrders(swing, new ArrayList<>(), new ArrayList<>(queue(swing)));
            return place == -1 ? least : leastOrder.get(place);
        }

        private void tryOrders(int swing, List<Integer> front, List<Integer> rest) {
            if (rest.isEmpty()) {
                int time = 0;
                int waits = 0;
                for (int k = 0; k < front.size(); k++) {
                    waits += time;
                    int who = front.size() == 1 ? 9 : front.get((k + 1) % front.size());
                    time += seconds(swing, front.get(k), who, front.size() - 1);
                }
                if (waits < least) {
                    least = waits;
                    leastOrder = new ArrayList<>(front);
                }
            }
            for (Integer next : rest) {
                List<Integer> longer = new ArrayList<>(front);
                longer.add(next);
                List<Integer> fewer = new ArrayList<>(rest);
                fewer.remove(next);
                tryOrders(swing, longer, fewer);
            }
        }

        int held(int bell, int cm) {
            if (!isBell(bell) || cm < 0 || !isChild(cm / 10)) {
                return BAD;
            }
            Integer child = cm / 10;
            int swing = children.get(child)[5];
            if (swing == 3) {
                return STATE;
            }
            List<Integer> queue = new ArrayList<>(queue(swing));
            int time = 0, times = 0, othersToGo = 0;
            for (;;) {
                List<Integer> present = new ArrayList<>(queue);
                if (othersToGo > 0) {
                    present.remove(child);
                }
                if (present.isEmpty()) {
                    return times;
                }
                Integer on = present.get(0);
                time += seconds(swing, on, present.size() > 1 ? present.get(1) : 9, present.size() - 1);
                if (time > bell) {
                    return times;
                }
                queue.remove(on);
                queue.add(on);
                if (on.equals(child)) {
                    othersToGo = times == 0 ? cm % 10 : 0;
                    times++;
                } else if (othersToGo > 0) {
                    othersToGo--;
                }
            }
        }

        int trade(int bell, int ab) {
            if (!isBell(bell) || ab < 0 || !isChild(ab / 10) || !isChild(ab % 10) || ab / 10 == ab % 10) {
                return VOID;
            }
            int one = ab / 10, other = ab % 10;
            int swing = children.get(one)[5];
            if (swing == 3 || children.get(other)[5] != swing) {
                return STATE;
            }
            ArrayDeque<Integer> changed = new ArrayDeque<>();
            for (int c : queue(swing)) {
                changed.add(c == one ? other : c == other ? one : c);
            }
            int before = waited(turnsOn(swing, queue(swing), bell, null), one);
            int after = waited(turnsOn(swing, changed, bell, null), one);
            return before == NOT || after == NOT ? NOT : before - after;
        }

        int drawn(int seed, int n, int bell, int child) {
            if (n < 1 || n > 10 || !isBell(bell) || child < -1 || child >= children.size()) {
                return BAD;
            }
            int[] z = {seed};
            int sum = 0;
            for (int k = 0; k < n; k++) {
                for (int swing = 0; swing < 3; swing++) {
                    for (int[] turn : turnsOn(swing, queue(swing), bell, z)) {
                        sum += child == -1 || turn[0] == child ? 1 : 0;
                    }
                }
            }
            return sum;
        }

        // ---- squeals

        int judge(int shelf, int sc, int q) {
            if (shelf < 0 || shelf > 5 || !isTold(sc, q)) {
                return BAD;
            }
            return shelves[shelf] == null ? -11 : !(shelves[shelf] instanceof byte[]) ? -12
                    : unlike((byte[]) shelves[shelf], rounds(sc / 100, sc / 10 % 10, sc % 10, q));
        }

        private int unlike(byte[] heard, List<Integer> rounds) {
            for (int k = 0; k < 200; k++) {
                int a = k < heard.length ? heard[k] : 1000;
                int b = k < rounds.size() ? rounds.get(k) : 1000;
                if (a != b) {
                    return k;
                }
            }
            return NOT;
        }

        int who(int shelf, int sw, int q) {
            if (shelf < 0 || shelf > 5 || sw < 0 || sw > 29 || !isCounter(sw % 10, -1) || q < 0 || q > 8) {
                return BAD;
            }
            if (!(shelves[shelf] instanceof byte[])) {
                return shelves[shelf] == null ? -11 : -12;
            }
            int bits = 0;
            for (int c = 0; c < children.size(); c++) {
                if (c != sw % 10 && judge(shelf, sw / 10 * 100 + c * 10 + sw % 10, q) == NOT) {
                    bits += 1 << c;
                }
            }
            return bits;
        }

        int sure(int shelf, int sc, int q) {
            int first = judge(shelf, sc, q);
            if (first == BAD || first <= -11) {
                return first;
            }
            int bits = 0;
            for (int who = 0; who < 10; who++) {
                if (isTold(sc / 10 * 10 + who, q) && judge(shelf, sc / 10 * 10 + who, q) == NOT) {
                    bits += 1 << who;
                }
            }
            return bits;
        }

        // ---- in deed: swing (-1: nobody), child, who, rounds, seconds, height; then LED

        private int[] deed = {-1, 0, 0, 0, 0, 0, 0, 0, 0, 0, 0, NOT};
        private int[] image = null;

        int on(int sc) {
            if (!isTold(sc, 0)) {
                return BAD;
            }
            if (deed[0] >= 0) {
                return STATE;
            }
            int[] fresh = {sc / 100, sc / 10 % 10, sc % 10, 0, 0, 0};
            System.arraycopy(fresh, 0, deed, 0, 6);
            return deed[1];
        }

        int push() {
            if (deed[0] < 0) {
                return STATE;
            }
            int swing = deed[0], child = deed[1];
            int waiting = (int) queue(swing).stream().filter(c -> c != child).count();
            deed[5] = risen(deed[5], child);
            int lasts = lasts(deed[5], swing, child, deed[3], waiting);
            deed[3]++;
            deed[4] += lasts;
            deed[7]++;
            deed[8] += lasts;
            if (deed[5] > deed[10]) {
                deed[10] = deed[5];
                deed[11] = child;
            }
            boolean counted = counted(deed[3], deed[2], child) >= rules[1];
            if (counted || (rules[2] > 0 && deed[4] >= rules[2]) || deed[3] == 60) {
                deed[0] = -1;
                deed[6]++;
            }
            return lasts;
        }

        int off() {
            if (deed[0] < 0) {
                return STATE;
            }
            deed[0] = -1;
            deed[9]++;
            return deed[3];
        }

        int led(int what) {
            if (what < 0 || what > 7) {
                return BAD;
            }
            if (what < 6) {
                return deed[6 + what];
            }
            return deed[0] < 0 ? STATE : what == 6 ? deed[3] : counted(deed[3], deed[2], deed[1]);
        }

        int image() {
            image = deed.clone();
            return deed[6];
        }

        int back() {
            if (image == null) {
                return STATE;
            }
            deed = image.clone();
            return deed[6];
        }

        // ---- acts, shelves

        final List<TurnBody> bodies = new ArrayList<>();
        private final List<Integer> trace = new ArrayList<>();
        private final Object[] shelves = new Object[6];

        int body(int kind) {
            if (kind < 0 || kind > 7) {
                return BAD;
            }
            int n = bodies.size();
            if (n == 50) {
                return FULL;
            }
            TurnBody[] made = {new TurnBody(trace, n), new Plain(trace, n), new Stretched(trace, n), new Helped(trace, n),
                new Counted(trace, n), new Held(trace, n), new Short(trace, n), new Last(trace, n)};
            bodies.add(made[kind]);
            return n;
        }

        int act(int body, int act, int x) {
            trace.clear();
            if (body < 0 || body >= bodies.size()) {
                return 0;
            }
            TurnBody b = bodies.get(body);
            switch (act) {
                case 0: return b.swings(x);
                case 1: return b.counts(x);
                case 2: return b.waits(x);
                case 3: return b.tells(x);
                default: return 0;
            }
        }

        int trace(int i) {
            return i < 0 || i >= trace.size() || i >= 24 ? BAD : trace.get(i);
        }

        int keep(int shelf, int body) {
            if (shelf < 0 || shelf > 5 || body < -1 || body >= bodies.size()) {
                return BAD;
            }
            shelves[shelf] = body < 0 ? null : bodies.get(body);
            return 1;
        }

        int row(int shelf, int sort, int n) {
            if (shelf < 0 || shelf > 5 || sort < 0 || sort > 4 || n > 60) {
                return BAD;
            }
            if (n < 0) {
                return -14;
            }
            Object[] made = {new byte[n], new short[n], new int[n], new long[n], new boolean[n]};
            shelves[shelf] = made[sort];
            return 1;
        }

        private boolean isRow(Object thing) {
            return thing != null && thing.getClass().isArray();
        }

        int put(int shelf, int i, long v) {
            if (shelf < 0 || shelf > 5) {
                return BAD;
            }
            Object row = shelves[shelf];
            if (!isRow(row)) {
                return row == null ? -11 : -12;
            }
            if (i < 0 || i >= java.lang.reflect.Array.getLength(row)) {
                return -13;
            }
            if (row instanceof byte[]) {
                ((byte[]) row)[i] = (byte) v;
            } else if (row instanceof short[]) {
                ((short[]) row)[i] = (short) v;
            } else if (row instanceof int[]) {
                ((int[]) row)[i] = (int) v;
            } else if (row instanceof long[]) {
                ((long[]) row)[i] = v;
            } else {
                ((boolean[]) row)[i] = v != 0;
            }
            return 1;
        }

        long element(int shelf, int i) {
            if (shelf < 0 || shelf > 5 || !isRow(shelves[shelf]) || i < 0 || i >= java.lang.reflect.Array.getLength(shelves[shelf])) {
                return Long.MIN_VALUE;
            }
            Object row = shelves[shelf];
            if (row instanceof boolean[]) {
                return ((boolean[]) row)[i] ? 1 : 0;
            }
            return java.lang.reflect.Array.getLong(row, i);
        }

        int shift(int shelf, int i, int other, int j, int n) {
            if (shelf < 0 || shelf > 5 || other < 0 || other > 5) {
                return BAD;
            }
            try {
                shelves[shelf].getClass();
                shelves[other].getClass();
                System.arraycopy(shelves[shelf], i, shelves[other], j, n);
                return n;
            } catch (NullPointerException e) {
                return -11;
            } catch (ArrayStoreException e) {
                return -12;
            } catch (IndexOutOfBoundsException e) {
                return -13;
            }
        }

        int taken(int shelf, int k) {
            if (shelf < 0 || shelf > 5 || k < 0 || k > 7) {
                return BAD;
            }
            Class<?>[] kinds = {TurnBody.class, Plain.class, Stretched.class, Helped.class, Counted.class, Held.class, Short.class, Last.class};
            if (shelves[shelf] == null) {
                return -11;
            }
            return kinds[k].isInstance(shelves[shelf]) ? Arrays.asList(kinds).indexOf(shelves[shelf].getClass()) : -12;
        }

        int children(int shelf, int i, int n) {
            if (shelf < 0 || shelf > 5 || n < 1 || n > 9) {
                return BAD;
            }
            if (shelves[shelf] != null && !(shelves[shelf] instanceof byte[])) {
                return -12;
            }
            byte[] row = (byte[]) shelves[shelf];
            int came = 0;
            for (long at = i; row != null && at >= 0 && at + 2 < row.length && came < n; at += 3) {
                byte w = row[(int) at], l = row[(int) at + 1], q = row[(int) at + 2];
                if (w < 1 || w > 9 || l < 0 || l > 3 || child(w * 10 + l, q) < 0) {
                    break;
                }
                came++;
            }
            return came;
        }

        int count(int what) {
            switch (what) {
                case 0: return children.size();
                case 1: return tape.length();
                case 2: return done.size();
                case 3: return bodies.size();
                case 4: return trace.size();
                default: return BAD;
            }
        }
    }
}
