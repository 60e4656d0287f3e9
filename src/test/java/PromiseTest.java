/** Each promise by hand: ordinary inputs, the edges that the document names, wrong inputs. */
public final class PromiseTest {
    private static final int BAD = -1, NOT = -2, FULL = -3, STATE = -5, VOID = -2000000000;
    private static final int LEAST = Integer.MIN_VALUE, MOST = Integer.MAX_VALUE;

    private static int wrong = 0;
    private static int checks = 0;
    private static int promise = 0;

    public static void main(String[] args) {
        newObject();
        child();
        children();
        mend();
        of();
        feed();
        law();
        lawFaults();
        turn();
        longest();
        counter();
        unfair();
        afternoon();
        been();
        join();
        each();
        order();
        held();
        trade();
        drawn();
        judge();
        who();
        sure();
        on();
        push();
        off();
        led();
        imageAndBack();
        undoAndRedo();
        body();
        act();
        trace();
        keep();
        row();
        put();
        element();
        shift();
        taken();
        count();
        System.out.println(checks + " checks, " + wrong + " not as due");
        if (wrong != 0) {
            System.exit(1);
        }
    }

    private static void due(String call, long got, long want) {
        checks++;
        if (got != want) {
            wrong++;
            System.out.println("promise " + promise + ": " + call + " answered " + got + ", due is " + want);
        }
    }

    /** Like answers for many wrong inputs. */
    private static void allDue(String calls, long want, long... got) {
        for (int k = 0; k < got.length; k++) {
            due(calls + " [" + k + "]", got[k], want);
        }
    }

    private static int enact(TwentyPushes x, String text) {
        for (int k = 0; k < text.length(); k++) {
            x.feed(text.charAt(k));
        }
        return x.law();
    }

    /** An object by a law, with so many PUSHES, and CHILDREN of the WEIGHTS told, all in QUEUE 0, without LEGS. */
    private static TwentyPushes by(String law, int pushes, int... weights) {
        TwentyPushes x = new TwentyPushes();
        enact(x, law);
        x.mend(0, 8, pushes);
        for (int weight : weights) {
            x.child(weight * 10, 0);
        }
        return x;
    }

    private static void lay(TwentyPushes x, int shelf, int... bytes) {
        x.row(shelf, 0, bytes.length);
        for (int k = 0; k < bytes.length; k++) {
            x.put(shelf, k, bytes[k]);
        }
    }

    private static void newObject() {
        promise = 1;
        TwentyPushes x = new TwentyPushes();
        for (int what = 0; what < 5; what++) {
            due("count(" + what + ")", x.count(what), 0);
        }
        for (int swing = 0; swing < 3; swing++) {
            due("of(swing, 6)", x.of(swing, 6), 6);
            due("been(3600, swing)", x.been(3600, swing), 0);
        }
        due("of(0, 7)", x.of(0, 7), 2);
        due("of(0, 8)", x.of(0, 8), 20);
        due("of(0, 9)", x.of(0, 9), 0);
        due("of(0, 10)", x.of(0, 10), 0);
        for (int shelf = 0; shelf < 6; shelf++) {
            due("taken(shelf, 0)", x.taken(shelf, 0), -11);
        }
        due("back()", x.back(), STATE);
        due("law()", x.law(), -100);
        // one object knows nothing of another
        TwentyPushes y = new TwentyPushes();
        x.child(41, 0);
        x.mend(0, 6, 9);
        due("count(0)", y.count(0), 0);
        due("of(0, 6)", y.of(0, 6), 6);
    }

    private static void child() {
        promise = 2;
        TwentyPushes x = new TwentyPushes();
        allDue("child: BAD", BAD, x.child(1, 0), x.child(9, 0), x.child(0, 0), x.child(14, 0), x.child(19, 0),
                x.child(100, 0), x.child(111, 0), x.child(-41, 0), x.child(LEAST, 0), x.child(MOST, 0),
                x.child(41, -1), x.child(41, 4), x.child(41, LEAST), x.child(41, MOST));
        due("count(0)", x.count(0), 0);
        for (int k = 0; k < 9; k++) {
            int wl = (k + 1) * 10 + k % 4;
            due("child(" + wl + ")", x.child(wl, k % 4), k);
            due("WEIGHT", x.of(k, 0), k + 1);
            due("LEGS", x.of(k, 1), k % 4);
            due("CAP", x.of(k, 2), 9);
            due("BENT", x.of(k, 3), 0);
            due("FRIEND", x.of(k, 4), 9);
            due("QUEUE", x.of(k, 5), k % 4);
        }
        due("child: the tenth", x.child(41, 0), FULL);
        due("child: BAD goes ahead of FULL", x.child(45, 0), BAD);
        due("child is no change", x.count(2), 0);
    }

    private static void children() {
        promise = 3;
        TwentyPushes x = new TwentyPushes();
        due("children: missing", x.children(0, 0, 3), 0);
        due("children: missing, i below 0", x.children(0, -1, 3), 0);
        lay(x, 0, 4, 1, 0, 6, 2, 3, 9, 0, 1, 5, 5, 0, 7, 1);
        allDue("children: BAD", BAD, x.children(-1, 0, 1), x.children(6, 0, 1), x.children(0, 0, 0),
                x.children(0, 0, 10), x.children(0, 0, LEAST), x.children(MOST, 0, 1), x.children(1, 0, 0));
        allDue("children: none", 0, x.children(0, -1, 1), x.children(0, LEAST, 9), x.children(0, 14, 1),
                x.children(0, 12, 1), x.children(0, 13, 1), x.children(0, MOST, 9), x.children(0, MOST - 1, 1), x.children(0, 9, 2));
        due("count(0)", x.count(0), 0);
        due("children(0, 0, 2)", x.children(0, 0, 2), 2);
        due("of(1, 0)", x.of(1, 0), 6);
        due("of(1, 1)", x.of(1, 1), 2);
        due("of(1, 5)", x.of(1, 5), 3);
        due("of(1, 2)", x.of(1, 2), 9);
        due("children: the fourth is not as it may be", x.children(0, 0, 9), 3);
        due("count(0)", x.count(0), 5);
        lay(x, 1, 4, 1, 0, 4, 1, 0, 4, 1, 0, 4, 1);
        due("children: the row ends within a three", x.children(1, 0, 9), 3);
        due("children: FULL on the way", x.children(1, 0, 9), 1);
        due("children: FULL ahead", x.children(1, 0, 1), 0);
        due("count(0)", x.count(0), 9);
        x.row(2, 1, 9);
        x.body(0);
        x.keep(3, 0);
        allDue("children: of another kind", -12, x.children(2, 0, 1), x.children(3, 0, 1), x.children(2, -1, 1));
        due("children: BAD goes ahead", x.children(2, 0, 10), BAD);
    }

    private static void mend() {
        promise = 4;
        TwentyPushes x = new TwentyPushes();
        allDue("mend: no CHILD", BAD, x.mend(0, 0, 4), x.mend(0, 5, 0), x.mend(-1, 1, 0));
        x.child(41, 0);
        x.child(41, 0);
        int[] least = {1, 0, 0, 0, 0, 0, 1, 0, 1, 0, 0};
        int[] most = {9, 3, 9, 3, 9, 3, 9, 3, 30, 200, 12};
        for (int what = 0; what <= 10; what++) {
            int number = what < 6 ? 1 : what == 6 ? 2 : 0;
            int was = x.of(number, what);
            due("mend: least of " + what, x.mend(number, what, least[what]), was);
            due("mend: most of " + what, x.mend(number, what, most[what]), least[what]);
            due("mend: the same of " + what, x.mend(number, what, most[what]), most[what]);
            allDue("mend: out of bounds of " + what, BAD, x.mend(number, what, least[what] - 1),
                    x.mend(number, what, most[what] + 1), x.mend(number, what, LEAST), x.mend(number, what, MOST));
            due("of", x.of(number, what), most[what]);
        }
        due("mend: FRIEND, itself", x.mend(1, 4, 1), BAD);
        due("mend: FRIEND, not there", x.mend(1, 4, 2), BAD);
        due("mend: FRIEND, there", x.mend(0, 4, 1), 9);
        due("mend: FRIEND, none", x.mend(0, 4, 9), 1);
        allDue("mend: no such number", BAD, x.mend(2, 0, 4), x.mend(-1, 0, 4), x.mend(3, 6, 4), x.mend(-1, 6, 4),
                x.mend(1, 7, 1), x.mend(1, 8, 1), x.mend(-1, 9, 1), x.mend(1, 10, 1), x.mend(0, 11, 1),
                x.mend(0, -1, 1), x.mend(LEAST, 0, 1), x.mend(MOST, 5, 1), x.mend(0, MOST, 1));
    }

    private static void of() {
        promise = 5;
        TwentyPushes x = new TwentyPushes();
        allDue("of: no CHILD", BAD, x.of(0, 0), x.of(0, 5));
        x.child(73, 2);
        long[] wants = {7, 3, 9, 0, 9, 2, 6, 2, 20, 0, 0};
        for (int what = 0; what <= 10; what++) {
            due("of(0, " + what + ")", x.of(0, what), wants[what]);
        }
        allDue("of: BAD", BAD, x.of(1, 0), x.of(-1, 0), x.of(3, 6), x.of(-1, 6), x.of(1, 7), x.of(1, 10),
                x.of(0, 11), x.of(0, -1), x.of(LEAST, LEAST), x.of(MOST, 3));
    }

    private static void feed() {
        promise = 6;
        TwentyPushes x = new TwentyPushes();
        allDue("feed: BAD", BAD, x.feed(-1), x.feed(256), x.feed(LEAST), x.feed(MOST));
        due("feed(0)", x.feed(0), 1);
        due("feed(255)", x.feed(255), 2);
        for (int k = 3; k <= 120; k++) {
            due("feed: the " + k + "th", x.feed('1'), k);
        }
        due("feed: FULL", x.feed('1'), FULL);
        due("feed: BAD goes ahead of FULL", x.feed(256), BAD);
        due("count(1)", x.count(1), 120);
        due("law()", x.law(), -100);
        due("count(1)", x.count(1), 0);
        due("feed(49)", x.feed('1'), 1);
    }

    /** The seconds of the first ROUND: h 2, s 6, w 4, r 0, q 3, p 2. */
    private static int worth(String text) {
        TwentyPushes x = new TwentyPushes();
        x.child(41, 0);
        x.mend(0, 8, 1);
        return enact(x, text) == 1 ? x.turn(9, 3, 1) : -999;
    }

    private static void law() {
        promise = 7;
        Object[][] rows = {
            {"5", 5}, {"h", 2}, {"s", 6}, {"w", 4}, {"r", 1}, {"r+3", 3}, {"q", 3}, {"p", 2}, {"0007", 7},
            {"0", 1}, {"-5", 1}, {"20", 20}, {"21", 20}, {"9999", 20}, {"h+s*w-20", 6}, {"s-w-1", 1}, {"s+w-1", 9},
            {"20/6", 3}, {"17%5", 2}, {"-7/2+10", 7}, {"-7%4+10", 7}, {"7/-2+10", 7}, {"7%-4+10", 13},
            {"5/0+3", 3}, {"5%0+3", 3}, {"100/5/2", 10}, {"100/5*2-30", 10}, {"29%10%4", 1}, {"2*3%4+5", 7},
            {"!0+4", 5}, {"!7+4", 4}, {"--5", 5}, {"!!9+1", 2}, {"-!0+9", 8}, {"!-1+9", 9}, {"9--1", 10}, {"2*-h+9", 5},
            {"(1|0)+(0&1)+5", 6}, {"(5|6)+7", 8}, {"(2&4)+7", 8}, {"(0|0)+7", 7}, {"1|0&0", 1}, {"(1|0&0)*9", 9},
            {"((1|0)&0)*9+2", 2}, {"(1<2)*9", 9}, {"(2<2)*9+2", 2}, {"(2=2)*9", 9}, {"(2>1)*9", 9}, {"(1>1)*9+2", 2},
            {"(1<2&3>2)*9", 9}, {"(1+1=2)*9", 9}, {"(3-1<2*1)*9+2", 2}, {"(9-2)*2", 14},
            {"9999*9999*9999<0?3;4", 3}, {"-9999*9999*9999>0?3;4", 3},
            {"0?5", 1}, {"0?5;7", 7}, {"h=2?8;9", 8}, {"h>2?8;9", 9}, {"0?5;0?6;0?7", 1}, {"0?5;3?6;7", 6},
            {"4;5", 4}, {"-1?6;7", 6}, {"1/0?6;7", 7}, {"((((((8))))))", 8}, {"------8", 8}, {"!!!!!!8+4", 5},
            {"-(-(-(2)))+9", 7}, {"(1)+(1)+(1)+(1)+(1)+(1)+(1)", 7}, {"0-1-1-1-1-1-1-1-1+19", 11}, {"1<2&2<3|0", 1},
            {"(1<2)<3", 1}, {"1*2*3+4*2-h", 12}};
        for (Object[] row : rows) {
            due("law: " + row[0], worth((String) row[0]), (Integer) row[1]);
        }
        // 65536 * 32768 wraps to the least int; by -1 it stays that, and nothing is left over
        String min = "(4096*16*4096*8)";
        due("law: the least int by -1", worth(min + "/-1<0?7;8"), 7);
        due("law: the least int by -1", worth(min + "%-1+9"), 9);
        due("law: the least int turned", worth("-" + min + "<0?7;8"), 7);
        TwentyPushes x = by("r+1", 3, 4);
        due("turn: r from 0 on", x.turn(9, 0, 1), 6);
        due("law: a fault", enact(x, "9+"), -102);
        due("law: the old one stays", x.turn(9, 0, 1), 6);
        due("count(1): empty behind a fault", x.count(1), 0);
        due("law: empty", x.law(), -100);
        due("law: the old one stays", x.turn(9, 0, 1), 6);
        due("law: another", enact(x, "2"), 1);
        due("turn", x.turn(9, 0, 1), 6);
        due("law: another", enact(x, "4"), 1);
        due("turn", x.turn(9, 0, 1), 12);
        due("law is no change", x.count(2), 1);
    }

    private static void lawFaults() {
        promise = 7;
        Object[][] rows = {
            {"", 0}, {"1+", 2}, {"+1", 0}, {"1;", 2}, {";", 0}, {"12345", 4}, {"x", 0}, {"hh", 1}, {"h h", 1}, {" 1", 0},
            {"2h", 1}, {"h2", 1}, {"(1", 2}, {"(1))", 3}, {"1)", 1}, {")", 0}, {"()", 1}, {"(((((((1", 6}, {"-------1", 6},
            {"!(-(!(-(1))))", 6}, {"(((((( (", 6}, {"((((((!", 6}, {"((((((-1", 6}, {"((((((", 6}, {"((((((1)))))", 12},
            {"1<2<3", 3}, {"1=2=3", 3}, {"1<2>3", 3}, {"(1<2<3)", 4}, {"1?", 2}, {"1?2?3", 3}, {"(1?2)", 2}, {"?1", 0},
            {"1;;2", 2}, {"1-(2", 4}, {"1!2", 1}, {"1!", 1}, {"1(2)", 1}, {"!", 1}, {"-", 1}, {"1*/2", 2}, {"1+*2", 2},
            {"1?2;", 4}, {"1?2;3?", 6}, {"1&|2", 2}, {"1<", 2}, {"1<=2", 2}, {"h?s;w,q", 5}, {"1234;12345", 9}, {"H", 0},
            {"1\u0000", 1}, {"\u00ff", 0}, {"1\u00b2", 1}, {"~1", 0}, {"(1;2)", 2}, {"((1)", 4}, {"1+(2+(3+(4+(5+(6+(7+(8", 20}};
        for (Object[] row : rows) {
            due("law: " + row[0], enact(new TwentyPushes(), (String) row[0]), -100 - (Integer) row[1]);
        }
        StringBuilder longest = new StringBuilder("1");
        while (longest.length() + 2 <= 119) {
            longest.append("+1");
        }
        due("law: 119 bytes", enact(new TwentyPushes(), longest.toString()), 1);
        due("law: 120 bytes", enact(new TwentyPushes(), longest + "1"), 1);
        due("law: 120 bytes, too early", enact(new TwentyPushes(), longest + "+"), -220);
        StringBuilder lines = new StringBuilder("0?1");
        while (lines.length() + 2 <= 120) {
            lines.append(";9");
        }
        due("law: many lines", worth(lines.toString()), 9);
        StringBuilder signs = new StringBuilder("-h");
        for (int k = 0; k < 57; k++) {
            signs.append(k % 2 == 0 ? "+h" : "-h");
        }
        due("law: 120 bytes, each a sign", worth(signs + "+s+w"), 10);
        due("law: six open, five operands each", worth("0|1&1<1+1*(0|1&1<1+1*(0|1&1<1+1*(0|1&1<1+1*(0|1&1<1+1*(0|1&1<1+1*(0|1&1<1+1*9))))))?7;8"), 7);
    }

    private static void turn() {
        promise = 8;
        TwentyPushes x = new TwentyPushes();
        allDue("turn: nobody", BAD, x.turn(9, 0, 0), x.turn(0, 0, 0));
        for (int k = 0; k < 5; k++) {
            x.child(41, 0);
        }
        for (int bent = 1; bent <= 3; bent++) {
            x.mend(bent, 3, bent);
        }
        x.mend(4, 4, 0);
        x.mend(4, 3, 2);
        long[][] wants = {{20, 29, 16, 20, 29}, {193, 283, 153, 193, 283}, {9, 9, 9, 9, 9}, {20, 20, 20, 20, 20}};
        for (int what = 0; what < 4; what++) {
            due("turn: as it is", x.turn(9, 0, what), wants[what][0]);
            for (int who = 1; who <= 4; who++) {
                due("turn by " + who, x.turn(who, 0, what), wants[what][who]);
            }
        }
        due("turn: its BENT for who is not its FRIEND", x.turn(14, 0, 0), 16);
        x.mend(0, 8, 25);
        due("turn: by tens to 25", x.turn(3, 0, 0), 30);
        due("turn: by tens to 25", x.turn(3, 0, 3), 30);
        x.mend(0, 8, 5);
        due("turn: quickly to 5", x.turn(2, 0, 0), 4);
        due("turn: quickly to 5", x.turn(2, 0, 3), 5);
        due("turn: slowly to 5", x.turn(1, 0, 0), 7);
        x.mend(0, 8, 2);
        due("turn: slowly to 2", x.turn(1, 0, 0), 2);
        due("turn: slowly to 2", x.turn(1, 0, 3), 2);
        x.mend(0, 8, 30);
        due("turn: slowly to 30", x.turn(1, 0, 0), 44);
        x.mend(0, 9, 24);
        due("turn: 24 seconds", x.turn(9, 0, 0), 3);
        due("turn: 24 seconds, COUNTED by tens", x.turn(3, 0, 3), 0);
        x.mend(0, 9, 1);
        due("turn: 1 second", x.turn(9, 0, 0), 1);
        x.mend(0, 9, 25);
        due("turn: 25 seconds", x.turn(9, 0, 0), 4);
        due("turn: 25 seconds", x.turn(9, 0, 1), 33);
        due("turn: on another SWING", x.turn(109, 0, 1), 33);
        x.mend(1, 6, 1);
        due("turn: on a short SWING", x.turn(109, 0, 1), 2 + 3 + 4 + 4 + 5 + 5 + 5);
        turnHeights();
        allDue("turn: BAD", BAD, x.turn(0, 0, 0), x.turn(59, 0, 0), x.turn(99, 0, 0), x.turn(5, 0, 0), x.turn(8, 0, 0),
                x.turn(309, 0, 0), x.turn(-1, 0, 0), x.turn(9, -1, 0), x.turn(9, 9, 0), x.turn(9, 0, -1), x.turn(9, 0, 4),
                x.turn(LEAST, 0, 0), x.turn(MOST, 0, 0), x.turn(9, LEAST, 0), x.turn(9, 0, MOST), x.turn(1009, 0, 0));
    }

    private static void turnHeights() {
        TwentyPushes x = by("h+1", 3, 9, 1, 8);
        x.mend(0, 7, 0);
        due("turn: 0 at least", x.turn(9, 0, 2), 0);
        due("turn: 0 at least", x.turn(9, 0, 1), 3);
        x.mend(0, 7, 3);
        due("turn: WEIGHT 9 and PUSHER 3", x.turn(9, 0, 2), 0);
        due("turn: WEIGHT 1 and PUSHER 3", x.turn(19, 0, 2), 9);
        due("turn: WEIGHT 1 and PUSHER 3", x.turn(19, 0, 1), 4 + 7 + 10);
        due("turn: WEIGHT 8 and PUSHER 3", x.turn(29, 0, 2), 3);
        x.mend(1, 1, 3);
        x.mend(1, 2, 7);
        due("turn: CAP 7", x.turn(19, 0, 2), 7);
        due("turn: CAP 7", x.turn(19, 0, 1), 7 + 8 + 8);
        x.mend(1, 2, 0);
        due("turn: CAP 0", x.turn(19, 0, 2), 0);
        due("turn changes nothing", x.led(4), 0);
        TwentyPushes y = by("q*2+p", 1, 4);
        due("turn: q", y.turn(9, 0, 1), 2);
        due("turn: q", y.turn(9, 8, 1), 18);
        due("turn: q", y.turn(9, 3, 1), 8);
    }

    private static void longest() {
        promise = 9;
        TwentyPushes x = by("h", 3, 1, 1);
        x.mend(0, 2, 4);
        due("longest: heights 2 4 6 need no more than 6", x.longest(9, 0), 6);
        due("longest keeps the CAP", x.of(0, 2), 4);
        due("longest is no change", x.count(2), 2);
        enact(x, "10-h");
        due("longest: the lower the longer", x.longest(9, 0), 0);
        enact(x, "3");
        due("longest: all alike", x.longest(9, 0), 0);
        enact(x, "h=5?9;1");
        due("longest: one height alone", x.longest(9, 0), 5);
        enact(x, "q=2&h=3?9;h");
        due("longest: by q", x.longest(9, 2), 3);
        due("longest: by q", x.longest(1, 1), 6);
        enact(x, "h");
        x.mend(0, 8, 30);
        due("longest: to the greatest CAP", x.longest(9, 0), 9);
        x.mend(0, 8, 20);
        x.mend(1, 3, 2);
        enact(x, "r=16?20;h=3?3;1");
        due("longest: as it is", x.longest(9, 0), 3);
        enact(x, "h=0&r>15?20;h=3?3;1");
        due("longest: as it is", x.longest(9, 0), 0);
        due("longest: counted quickly", x.longest(1, 0), 3);
        allDue("longest: BAD", BAD, x.longest(0, 0), x.longest(29, 0), x.longest(309, 0), x.longest(9, 9),
                x.longest(9, -1), x.longest(-1, 0), x.longest(2, 0), x.longest(LEAST, LEAST));
    }

    private static void counter() {
        promise = 10;
        TwentyPushes x = by("1", 20, 4);
        due("counter: nobody else", x.counter(9, 0), 9);
        x.child(40, 0);
        due("counter: of like ones the least", x.counter(9, 0), 1);
        due("counter: who counts there does not matter", x.counter(1, 0), 1);
        x.mend(1, 3, 2);
        due("counter: quickly is shorter", x.counter(9, 0), 9);
        x.child(40, 3);
        x.child(40, 1);
        x.mend(2, 3, 1);
        x.mend(3, 3, 1);
        due("counter: slowly, in no QUEUE", x.counter(109, 0), 2);
        due("counter: not itself", x.counter(129, 0), 3);
        x.mend(1, 4, 0);
        due("counter: a friend is like slowly", x.counter(9, 0), 1);
        due("counter: a friend of another one is not", x.counter(39, 0), 2);
        x.mend(0, 3, 1);
        due("counter: the first one", x.counter(219, 0), 0);
        allDue("counter: BAD", BAD, x.counter(0, 0), x.counter(4, 0), x.counter(49, 0), x.counter(309, 0),
                x.counter(9, 9), x.counter(9, -1), x.counter(-9, 0), x.counter(MOST, MOST));
    }

    private static void unfair() {
        promise = 11;
        TwentyPushes x = by("1", 20, 4, 4, 4, 4);
        for (int bent = 1; bent <= 3; bent++) {
            x.mend(bent, 3, bent);
        }
        due("unfair: as it is", x.unfair(9, 0), 0);
        due("unfair: slowly", x.unfair(1, 0), 9);
        due("unfair: quickly", x.unfair(2, 0), -4);
        due("unfair: by tens", x.unfair(3, 0), 0);
        x.mend(0, 8, 21);
        due("unfair: by tens", x.unfair(3, 0), 9);
        x.mend(0, 9, 5);
        due("unfair: cut off by seconds", x.unfair(9, 0), -16);
        allDue("unfair: BAD", VOID, x.unfair(0, 0), x.unfair(4, 0), x.unfair(49, 0), x.unfair(309, 0), x.unfair(9, 9),
                x.unfair(9, -1), x.unfair(-1, 0), x.unfair(LEAST, 0));
    }

    private static void afternoon() {
        promise = 12;
        TwentyPushes x = by("1", 10, 4, 4, 4);
        x.child(40, 3);
        long[][] often = {{1, 1, 1, 0}, {1, 1, 0, 0}, {2, 1, 1, 0}};
        int[] bells = {30, 29, 40};
        for (int k = 0; k < 3; k++) {
            for (int child = 0; child < 4; child++) {
                due("afternoon(" + bells[k] + ", " + child + ", 0)", x.afternoon(bells[k], child, 0), often[k][child]);
                due("afternoon: ROUNDS", x.afternoon(bells[k], child, 2), often[k][child] * 10);
            }
        }
        due("afternoon: WAITED", x.afternoon(30, 0, 1), 0);
        due("afternoon: WAITED", x.afternoon(30, 1, 1), 10);
        due("afternoon: WAITED", x.afternoon(30, 2, 1), 20);
        due("afternoon: WAITED, had none", x.afternoon(29, 2, 1), NOT);
        due("afternoon: WAITED, in no QUEUE", x.afternoon(3600, 3, 1), NOT);
        due("afternoon: all day", x.afternoon(3600, 0, 0), 120);
        x.mend(1, 3, 2);
        due("afternoon: counted by the next one", x.afternoon(40, 1, 1), 8);
        due("afternoon: ROUNDS, counted quickly", x.afternoon(40, 0, 2), 16);
        due("afternoon: the others as before", x.afternoon(40, 2, 1), 18);
        x.mend(0, 4, 2);
        due("afternoon: the last one is counted by the first", x.afternoon(36, 0, 0), 1);
        due("afternoon: slowly for a friend", x.afternoon(32, 2, 2), 14);
        due("afternoon: slowly for a friend", x.afternoon(31, 2, 2), 0);
        x.mend(1, 5, 1);
        due("afternoon: alone, counted as it is", x.afternoon(100, 1, 0), 10);
        enact(x, "q+1");
        due("afternoon: q, alone", x.afternoon(100, 1, 0), 10);
        due("afternoon: q, with another", x.afternoon(100, 2, 1), 20);
        allDue("afternoon: BAD", BAD, x.afternoon(0, 0, 0), x.afternoon(3601, 0, 0), x.afternoon(-1, 0, 0),
                x.afternoon(1, 4, 0), x.afternoon(1, -1, 0), x.afternoon(1, 0, -1), x.afternoon(1, 0, 3),
                x.afternoon(LEAST, LEAST, LEAST), x.afternoon(MOST, MOST, MOST));
        TwentyPushes y = by("1", 1, 4);
        due("afternoon: 3600 TURNS", y.afternoon(3600, 0, 0), 3600);
        TwentyPushes z = by("w", 1, 2, 9, 1);
        due("afternoon: nor any behind it", z.afternoon(10, 2, 0), 0);
        due("afternoon: nor any behind it", z.afternoon(10, 0, 0), 1);
    }

    private static void been() {
        promise = 13;
        TwentyPushes x = by("w", 1, 3, 4);
        x.child(90, 1);
        x.child(10, 3);
        due("been: none", x.been(2, -1), 15);
        due("been: the first", x.been(3, -1), 14);
        due("been: two", x.been(7, -1), 12);
        due("been: all but who is in no QUEUE", x.been(9, -1), 8);
        due("been: the last end", x.been(9, 0), 7);
        due("been: the last end", x.been(10, 0), 10);
        due("been: the last end", x.been(9, 1), 9);
        due("been: no TURN", x.been(8, 1), 0);
        due("been: nobody", x.been(3600, 2), 0);
        due("been: all day", x.been(3600, 1), 3600);
        allDue("been: BAD", BAD, x.been(0, -1), x.been(3601, -1), x.been(1, -2), x.been(1, 3), x.been(LEAST, 0), x.been(1, MOST));
    }

    private static void join() {
        promise = 14;
        TwentyPushes x = by("1", 10, 4, 4);
        x.child(40, 1);
        x.child(40, 3);
        x.child(40, 2);
        due("join: 20, 10, 0", x.join(100, 3, 0), 2);
        due("join: 20, 10, 0", x.join(100, 3, 1), 0);
        due("join: behind the others by number", x.join(100, 4, 0), 2);
        x.mend(4, 5, 3);
        x.child(40, 2);
        due("join: of three like ones the least", x.join(100, 0, 0), 0);
        x.mend(5, 5, 3);
        x.mend(0, 5, 2);
        x.mend(1, 5, 2);
        x.mend(3, 5, 0);
        x.mend(2, 5, 1);
        due("join: 10, 10, 20", x.join(100, 4, 0), 0);
        due("join: 10, 10, 20", x.join(100, 4, 1), 10);
        due("join: over by the BELL", x.join(20, 4, 1), 10);
        due("join: not over by the BELL", x.join(19, 4, 0), NOT);
        due("join: not over by the BELL", x.join(19, 4, 1), NOT);
        due("join leaves the QUEUE as it is", x.of(4, 5), 3);
        x.mend(3, 6, 9);
        enact(x, "s");
        x.mend(0, 6, 9);
        due("join: by the SWING's law", x.join(200, 4, 0), 1);
        due("join: by the SWING's law", x.join(200, 4, 1), 60);
        enact(x, "1");
        x.mend(4, 3, 2);
        due("join: the new one counts", x.join(100, 4, 1), 8);
        enact(x, "q+1");
        due("join: the new one waits", x.join(100, 4, 1), 16);
        allDue("join: BAD", BAD, x.join(0, 0, 0), x.join(3601, 0, 0), x.join(1, 6, 0), x.join(1, -1, 0),
                x.join(1, 0, -1), x.join(1, 0, 2), x.join(LEAST, MOST, LEAST));
    }

    private static void each() {
        promise = 15;
        TwentyPushes x = by("1", 7);
        due("each: nobody", x.each(1), 30);
        x.child(40, 3);
        due("each: all in no QUEUE", x.each(1), 30);
        x.child(40, 0);
        due("each: one", x.each(29), 29);
        x.child(40, 0);
        due("each: two", x.each(40), 20);
        due("each: two", x.each(41), 20);
        due("each: two", x.each(60), 30);
        due("each: two", x.each(3600), 30);
        due("each: two", x.each(2), 1);
        due("each: two", x.each(1), NOT);
        for (int k = 0; k < 3; k++) {
            x.child(40, 1);
        }
        due("each: three on another SWING", x.each(40), 13);
        due("each leaves PUSHES as they are", x.of(0, 8), 7);
        x.mend(3, 3, 3);
        due("each: by tens is like ten", x.each(29), 9);
        due("each: by tens is like ten", x.each(30), 10);
        x.mend(0, 9, 4);
        due("each: SECONDS", x.each(12), 30);
        due("each: SECONDS", x.each(11), 3);
        allDue("each: BAD", BAD, x.each(0), x.each(3601), x.each(-1), x.each(LEAST), x.each(MOST));
    }

    private static void order() {
        promise = 16;
        TwentyPushes x = by("w", 1, 3, 1, 2);
        due("order: 1 2 0", x.order(0, -1), 1 + 3);
        due("order: 1 2 0", x.order(0, 0), 1);
        due("order: 1 2 0", x.order(0, 1), 2);
        due("order: 1 2 0", x.order(0, 2), 0);
        due("order: nobody", x.order(1, -1), 0);
        due("order: nobody at a place", x.order(1, 0), BAD);
        x.mend(1, 0, 3);
        x.mend(2, 0, 3);
        for (int place = 0; place < 3; place++) {
            due("order: of like ones the first by numbers", x.order(0, place), place);
        }
        due("order: of like ones", x.order(0, -1), 9);
        x.child(10, 2);
        due("order: alone", x.order(2, -1), 0);
        due("order: alone", x.order(2, 0), 3);
        x.child(10, 0);
        x.child(20, 0);
        due("order: five", x.order(0, -1), 1 + 3 + 6 + 9);
        due("order: five", x.order(0, 0), 4);
        due("order: five", x.order(0, 1), 5);
        due("order: five", x.order(0, 4), 2);
        due("order: no sixth", x.order(0, 5), BAD);
        x.child(20, 0);
        allDue("order: six", STATE, x.order(0, -1), x.order(0, 0), x.order(0, 5));
        allDue("order: BAD goes ahead", BAD, x.order(0, -2), x.order(0, 6), x.order(3, -1), x.order(-1, -1),
                x.order(LEAST, LEAST), x.order(MOST, MOST), x.order(0, MOST));
        TwentyPushes y = by("1", 20, 4, 4, 4);
        y.mend(0, 3, 2);
        due("order: the quick one counts as the first that waits", y.order(0, 0), 1);
        due("order: the quick one counts as the first that waits", y.order(0, 1), 0);
        due("order: the quick one counts as the first that waits", y.order(0, -1), 16 + 16 + 20);
        enact(y, "q");
        due("order: q", y.order(0, -1), 32 + 32 + 40);
    }

    private static void held() {
        promise = 17;
        TwentyPushes x = by("1", 10, 4, 4, 4);
        due("held: for none", x.held(60, 0), 2);
        due("held: for one", x.held(60, 1), 2);
        due("held: for two", x.held(40, 2), 2);
        due("held: for three", x.held(49, 3), 1);
        due("held: for three", x.held(50, 3), 2);
        due("held: behind it as ever", x.held(79, 3), 2);
        due("held: behind it as ever", x.held(80, 3), 3);
        due("held: for nine", x.held(109, 9), 1);
        due("held: for nine", x.held(110, 9), 2);
        due("held: the second one", x.held(60, 13), 2);
        due("held: the second one", x.held(59, 13), 1);
        due("held: before its first", x.held(10, 25), 0);
        x.child(40, 1);
        due("held: alone, for none", x.held(30, 30), 3);
        due("held: alone, for one: nobody else has TURNS", x.held(3600, 31), 1);
        x.child(40, 3);
        due("held: in no QUEUE", x.held(60, 40), STATE);
        due("held: BAD goes ahead", x.held(0, 40), BAD);
        allDue("held: BAD", BAD, x.held(0, 0), x.held(3601, 0), x.held(1, 50), x.held(1, -1), x.held(1, 90),
                x.held(LEAST, LEAST), x.held(MOST, MOST), x.held(60, LEAST));
        // who is away does not count, and does not wait: CHILD 0 would count slowly for 1
        TwentyPushes y = by("1", 20, 4, 4);
        y.mend(0, 4, 1);
        due("held: away, it does not count", y.held(20 + 40 + 20, 2), 2);
        due("held: away, it does not count", y.held(20 + 40 + 19, 2), 1);
        due("held: back, it counts", y.held(20 + 40 + 20 + 29 + 20, 2), 3);
        due("held: back, it counts", y.held(20 + 40 + 20 + 29 + 19, 2), 2);
        TwentyPushes z = by("q+1", 1, 4, 4);
        due("held: away, it does not wait", z.held(2 + 1 + 1 + 2, 2), 2);
        due("held: away, it does not wait", z.held(2 + 1 + 1 + 1, 2), 1);
        due("held: it waits again", z.held(2 + 1 + 1 + 2 + 2 + 2, 2), 3);
        due("held: it waits again", z.held(2 + 1 + 1 + 2 + 2 + 1, 2), 2);
        TwentyPushes v = by("q+1", 1, 4, 4, 4);
        due("held: away, one waits less", v.held(3 + 2 + 2 + 2 + 3, 3), 2);
        due("held: away, one waits less", v.held(3 + 2 + 2 + 2 + 2, 3), 1);
        due("held: all wait before its first", v.held(3 + 3, 15), 1);
        due("held: all wait before its first", v.held(3 + 2, 15), 0);
        TwentyPushes w = by("1", 20, 4, 4, 4);
        w.mend(1, 3, 2);
        due("held: passed over, the one behind it counts", w.held(16 + 20 + 16 + 20 + 16, 3), 1);
        due("held: passed over, the one behind it counts", w.held(16 + 20 + 16 + 20 + 20, 3), 2);
    }

    private static void trade() {
        promise = 18;
        TwentyPushes x = by("w", 1, 3, 1, 2);
        due("trade: later", x.trade(100, 2), -3);
        due("trade: sooner", x.trade(100, 20), 4);
        due("trade: sooner", x.trade(6, 20), 4);
        due("trade: it has none before", x.trade(5, 20), NOT);
        due("trade: it has none behind", x.trade(5, 2), NOT);
        due("trade: nobody has one", x.trade(1, 1), NOT);
        due("trade: neighbours", x.trade(100, 1), -1);
        due("trade: neighbours", x.trade(100, 10), 3);
        due("trade: the QUEUE is as it was", x.afternoon(100, 2, 1), 4);
        x.child(10, 1);
        x.child(10, 3);
        x.child(10, 3);
        allDue("trade: not of one QUEUE", STATE, x.trade(100, 3), x.trade(100, 30), x.trade(100, 4), x.trade(100, 45));
        allDue("trade: BAD", VOID, x.trade(0, 1), x.trade(3601, 1), x.trade(100, 0), x.trade(100, 11), x.trade(100, 6),
                x.trade(100, 60), x.trade(100, -1), x.trade(100, 101), x.trade(0, 3), x.trade(LEAST, LEAST), x.trade(1, MOST));
        TwentyPushes y = by("1", 20, 4, 4, 4);
        y.mend(2, 3, 1);
        due("trade: ahead of it nobody counts otherwise", y.trade(100, 10), 20);
        due("trade: other ones count then", y.trade(100, 12), 20 - (29 + 20));
        due("trade: other ones count then", y.trade(100, 21), 20 + 29 - 29);
    }

    private static void drawn() {
        promise = 19;
        TwentyPushes x = by("1", 10, 4, 4);
        due("drawn: nobody is tired", x.drawn(7, 1, 30, -1), 3);
        due("drawn: nobody is tired", x.drawn(7, 10, 30, 0), 20);
        due("drawn: nobody is tired", x.drawn(7, 10, 30, 1), 10);
        // by SEED 0 the draws are 0 6 3 4 6 4 6 3 9 3 11 8
        x.mend(0, 10, 1);
        due("drawn: TIRED 1", x.drawn(0, 1, 30, 0), 1);
        due("drawn: TIRED 1", x.drawn(0, 1, 30, 1), 2);
        due("drawn: the draws go on", x.drawn(0, 2, 30, 0), 3);
        due("drawn: the draws go on", x.drawn(0, 2, 30, 1), 3);
        due("drawn: the draws go on", x.drawn(0, 2, 30, -1), 6);
        x.child(40, 1);
        x.mend(0, 10, 4);
        due("drawn: TIRED 4", x.drawn(0, 1, 30, 0), 1);
        due("drawn: TIRED 4", x.drawn(0, 1, 30, 1), 2);
        due("drawn: TIRED 4, alone", x.drawn(0, 1, 30, 2), 3);
        due("drawn: TIRED 4", x.drawn(0, 1, 30, -1), 6);
        x.mend(0, 10, 12);
        due("drawn: all are tired", x.drawn(0, 10, 3600, 0), 0);
        due("drawn: all are tired, but who is alone", x.drawn(0, 10, 3600, -1), 3600);
        x.mend(0, 10, 11);
        x.mend(0, 8, 1);
        x.mend(2, 5, 3);
        due("drawn: 3600 at most, tired ones with them", x.drawn(0, 1, 3600, -1), 300);
        due("drawn: in no QUEUE", x.drawn(0, 1, 3600, 2), 0);
        allDue("drawn: BAD", BAD, x.drawn(0, 0, 1, -1), x.drawn(0, 11, 1, -1), x.drawn(0, 1, 0, -1), x.drawn(0, 1, 3601, -1),
                x.drawn(0, 1, 1, -2), x.drawn(0, 1, 1, 3), x.drawn(0, LEAST, LEAST, LEAST), x.drawn(0, 1, 1, MOST));
        due("drawn: any SEED", x.drawn(LEAST, 1, 1, 2), 0);
    }

    private static void judge() {
        promise = 20;
        TwentyPushes x = by("r+1", 3, 4, 4);
        due("judge: nothing there", x.judge(0, 9, 0), -11);
        lay(x, 0, 1, 2, 3);
        due("judge: all is so", x.judge(0, 9, 0), NOT);
        x.put(0, 1, 9);
        due("judge: the second is not so", x.judge(0, 9, 0), 1);
        x.put(0, 0, 257);
        due("judge: lowest bits", x.judge(0, 9, 0), 1);
        x.put(0, 0, -1);
        due("judge: below 0", x.judge(0, 9, 0), 0);
        lay(x, 0, 1, 2);
        due("judge: one lacks", x.judge(0, 9, 0), 2);
        lay(x, 0);
        due("judge: all lack", x.judge(0, 9, 0), 0);
        lay(x, 0, 1, 2, 3, 4, 5);
        due("judge: one is too much", x.judge(0, 9, 0), 3);
        x.mend(1, 3, 1);
        due("judge: by who counts", x.judge(0, 1, 0), 4);
        lay(x, 0, 1, 2, 3, 4);
        due("judge: slowly to 3", x.judge(0, 1, 0), NOT);
        enact(x, "q+s");
        lay(x, 0, 8, 8, 8);
        due("judge: by q", x.judge(0, 9, 2), NOT);
        due("judge: by q", x.judge(0, 9, 3), 0);
        x.mend(2, 6, 5);
        due("judge: by SWING", x.judge(0, 209, 3), NOT);
        x.row(1, 1, 3);
        x.body(0);
        x.keep(2, 0);
        allDue("judge: of another kind", -12, x.judge(1, 9, 0), x.judge(2, 9, 0));
        allDue("judge: BAD", BAD, x.judge(-1, 9, 0), x.judge(6, 9, 0), x.judge(0, 0, 0), x.judge(0, 29, 0), x.judge(0, 309, 0),
                x.judge(0, 9, 9), x.judge(0, 9, -1), x.judge(3, -1, 0), x.judge(1, 2, 0), x.judge(LEAST, LEAST, LEAST));
    }

    private static void who() {
        promise = 21;
        TwentyPushes x = by("w", 2, 4, 5, 4, 4);
        due("who: nothing there", x.who(0, 9, 0), -11);
        lay(x, 0, 4, 4);
        due("who: as it is", x.who(0, 9, 0), 1 + 4 + 8);
        due("who: not the one that counts", x.who(0, 2, 0), 1 + 8);
        due("who: on another SWING", x.who(0, 21, 8), 1 + 4 + 8);
        due("who: the first one counts", x.who(0, 0, 0), 4 + 8);
        x.mend(1, 4, 3);
        x.mend(0, 8, 3);
        lay(x, 0, 4, 4, 4);
        due("who: slowly for its friend", x.who(0, 1, 0), 1 + 4);
        lay(x, 0, 4, 4, 4, 4);
        due("who: slowly for its friend", x.who(0, 1, 0), 8);
        due("who: none", x.who(0, 9, 0), 0);
        lay(x, 0);
        due("who: no squeal", x.who(0, 9, 0), 0);
        x.row(1, 4, 3);
        x.body(7);
        x.keep(2, 0);
        allDue("who: of another kind", -12, x.who(1, 9, 0), x.who(2, 9, 0));
        allDue("who: BAD", BAD, x.who(-1, 9, 0), x.who(6, 9, 0), x.who(0, 39, 0), x.who(0, 4, 0), x.who(0, 8, 0), x.who(0, -1, 0),
                x.who(0, 9, 9), x.who(0, 9, -1), x.who(5, 30, 0), x.who(LEAST, LEAST, LEAST), x.who(0, MOST, 0));
    }

    private static void sure() {
        promise = 22;
        TwentyPushes x = by("1", 5, 4, 4, 4, 4);
        due("sure: nothing there", x.sure(0, 9, 0), -11);
        lay(x, 0, 1, 1, 1, 1, 1);
        due("sure: all others, and as it is", x.sure(0, 9, 0), 512 + 8 + 4 + 2);
        due("sure: of another", x.sure(0, 120, 0), 512 + 8 + 2 + 1);
        x.mend(1, 3, 1);
        x.mend(2, 3, 2);
        x.mend(3, 4, 0);
        due("sure: as it is alone", x.sure(0, 1, 0), 512);
        lay(x, 0, 1, 1, 1, 1, 1, 1, 1);
        due("sure: slowly, or a friend", x.sure(0, 9, 0), 8 + 2);
        lay(x, 0, 1, 1, 1, 1);
        due("sure: quickly", x.sure(0, 9, 0), 4);
        lay(x, 0, 1, 1, 1);
        due("sure: nobody", x.sure(0, 9, 0), 0);
        enact(x, "s");
        x.mend(2, 6, 4);
        lay(x, 0, 4, 4, 4, 4, 4);
        due("sure: on another SWING", x.sure(0, 209, 0), 512);
        due("sure: not on this one", x.sure(0, 9, 0), 0);
        x.row(1, 2, 3);
        x.body(7);
        x.keep(2, 0);
        allDue("sure: of another kind", -12, x.sure(1, 9, 0), x.sure(2, 9, 0));
        allDue("sure: BAD", BAD, x.sure(-1, 9, 0), x.sure(6, 9, 0), x.sure(0, 0, 0), x.sure(0, 4, 0), x.sure(0, 49, 0),
                x.sure(0, 309, 0), x.sure(0, 9, 9), x.sure(0, 9, -1), x.sure(5, -1, 0), x.sure(MOST, MOST, MOST));
    }

    private static void on() {
        promise = 23;
        TwentyPushes x = by("1", 2, 4, 4);
        allDue("on: BAD", BAD, x.on(0), x.on(2), x.on(29), x.on(309), x.on(-1), x.on(LEAST), x.on(MOST));
        due("on(10)", x.on(10), 1);
        due("on: somebody is", x.on(9), STATE);
        due("on: BAD goes ahead", x.on(11), BAD);
        due("led(6)", x.led(6), 0);
        x.push();
        due("on: in the midst", x.on(9), STATE);
        x.push();
        due("on: it is over", x.on(209), 0);
        x.off();
        due("on: it is off", x.on(119), 1);
    }

    private static void push() {
        promise = 24;
        TwentyPushes x = by("h*2+r", 3, 1, 4);
        due("push: nobody", x.push(), STATE);
        x.on(9);
        due("push: h 2, r 0", x.push(), 4);
        due("push: h 4, r 1", x.push(), 9);
        due("led(6)", x.led(6), 2);
        due("led(7)", x.led(7), 2);
        due("push: h 6, r 2", x.push(), 14);
        due("push: it is over", x.push(), STATE);
        x.on(9);
        due("push: HEIGHT begins anew", x.push(), 4);
        x.mend(0, 9, 10);
        due("push: to SECONDS", x.push(), 9);
        due("push: it is over", x.push(), STATE);
        x.mend(0, 9, 0);
        pushByTens();
        pushTillOverByNow();
        pushWaiting();
    }

    private static void pushByTens() {
        TwentyPushes x = by("1", 30, 4, 4);
        x.on(1);
        for (int k = 0; k < 5; k++) {
            x.push();
        }
        x.mend(1, 3, 3);
        x.push();
        due("push: by tens nothing yet, however it was counted before", x.led(7), 0);
        for (int k = 0; k < 4; k++) {
            x.push();
        }
        due("push: by tens at ten", x.led(7), 10);
        x.mend(1, 4, 0);
        x.push();
        due("push: slowly for a friend from now on", x.led(7), 8);
        x.mend(0, 8, 9);
        x.push();
        due("push: 12 are 8 slowly", x.led(7), 8);
        x.push();
        due("push: 13 are 9 slowly", x.led(7), STATE);
        due("led(0)", x.led(0), 1);
    }

    /** Whether a TURN is over is asked at a push alone, by all numbers as they are then. */
    private static void pushTillOverByNow() {
        TwentyPushes x = by("1", 30, 4, 4);
        x.on(1);
        x.push();
        x.mend(0, 8, 1);
        due("push: mending ends no TURN", x.on(1), STATE);
        x.mend(1, 3, 3);
        for (int k = 2; k < 10; k++) {
            x.push();
            due("push: by tens " + k + " are none", x.led(7), 0);
            due("push: it is not over", x.on(1), STATE);
        }
        x.push();
        due("push: it is over at ten", x.led(6), STATE);
        due("led(0)", x.led(0), 1);
        x.mend(0, 8, 4);
        x.on(1);
        x.push();
        x.push();
        x.push();
        x.mend(1, 3, 2);
        due("push: quickly four are 5", x.push(), 1);
        due("push: it is over", x.push(), STATE);
    }

    private static void pushWaiting() {
        TwentyPushes x = by("q+1", 30, 4, 4, 4);
        x.child(40, 1);
        x.on(9);
        due("push: two wait", x.push(), 3);
        x.mend(1, 5, 1);
        due("push: one waits now", x.push(), 2);
        x.off();
        x.on(29);
        due("push: the first one waits", x.push(), 2);
        x.off();
        x.on(109);
        due("push: on a SWING of another QUEUE", x.push(), 3);
        x.off();
        x.on(209);
        due("push: nobody waits", x.push(), 1);
    }

    private static void off() {
        promise = 25;
        TwentyPushes x = by("1", 5, 4);
        due("off: nobody", x.off(), STATE);
        x.on(9);
        due("off: none yet", x.off(), 0);
        due("off: twice", x.off(), STATE);
        x.on(9);
        x.push();
        x.push();
        due("off: two", x.off(), 2);
        due("led: OFFS", x.led(3), 2);
        due("led: TURNS that were over", x.led(0), 0);
        due("led: ROUNDS", x.led(1), 2);
        due("push: nobody", x.push(), STATE);
    }

    private static void led() {
        promise = 26;
        TwentyPushes x = by("h+1", 2, 3, 1, 1);
        long[] first = {0, 0, 0, 0, 0, NOT, STATE, STATE};
        for (int what = 0; what < 8; what++) {
            due("led(" + what + ")", x.led(what), first[what]);
        }
        x.mend(0, 7, 1);
        x.on(9);
        x.push();
        due("led: none above 0", x.led(5), NOT);
        due("led: the greatest HEIGHT", x.led(4), 0);
        x.push();
        x.on(19);
        x.push();
        due("led: its CHILD", x.led(5), 1);
        x.push();
        x.mend(2, 3, 0);
        x.on(29);
        x.push();
        x.push();
        due("led: the first such", x.led(5), 1);
        due("led: the greatest HEIGHT", x.led(4), 2);
        x.mend(0, 7, 3);
        x.on(29);
        x.push();
        long[] last = {3, 7, 1 + 1 + 2 + 3 + 2 + 3 + 4, 0, 3, 2, 1, 1};
        for (int what = 0; what < 8; what++) {
            due("led(" + what + ")", x.led(what), last[what]);
        }
        x.turn(29, 0, 0);
        x.afternoon(3600, 1, 0);
        due("led: thoughts are no deeds", x.led(1), 7);
        allDue("led: BAD", BAD, x.led(-1), x.led(8), x.led(LEAST), x.led(MOST));
        ledCountedByNow();
    }

    /** COUNTED is one number by the ROUNDS so far and by how the one who counts is BENT when it is asked for. */
    private static void ledCountedByNow() {
        TwentyPushes x = by("1", 30, 4, 4, 4);
        x.on(1);
        x.mend(1, 3, 3);
        due("led(7): none yet", x.led(7), 0);
        x.mend(1, 3, 0);
        for (int k = 0; k < 13; k++) {
            x.push();
        }
        long[] ways = {13, 9, 16, 10};
        for (int bent = 3; bent >= 0; bent--) {
            x.mend(1, 3, bent);
            due("led(7): by BENT " + bent, x.led(7), ways[bent]);
        }
        x.mend(1, 3, 2);
        x.mend(1, 4, 0);
        due("led(7): a friend by now", x.led(7), 9);
        x.undo();
        due("led(7): no friend any more", x.led(7), 16);
        x.undo();
        due("led(7): as it is again", x.led(7), 13);
        x.redo();
        due("led(7): quickly again", x.led(7), 16);
        x.mend(1, 4, 2);
        x.mend(2, 3, 3);
        due("led(7): neither another's friend nor another's BENT", x.led(7), 16);
        x.image();
        x.mend(1, 3, 3);
        x.push();
        due("back", x.back(), 0);
        due("led(7): an image keeps ROUNDS, not how they are COUNTED", x.led(7), 10);
        x.off();
        due("led(7): none is on", x.led(7), STATE);
        x.on(9);
        x.push();
        due("led(7): as it is by nobody", x.led(7), 1);
    }

    private static void imageAndBack() {
        promise = 27;
        TwentyPushes x = by("h+r", 3, 1, 4);
        promise = 28;
        due("back: there is none", x.back(), STATE);
        promise = 27;
        due("image: nobody is on", x.image(), 0);
        x.on(9);
        x.push();
        promise = 28;
        due("back: nobody is on", x.back(), 0);
        due("push: nobody is on", x.push(), STATE);
        due("led(1)", x.led(1), 0);
        due("led(5)", x.led(5), NOT);
        promise = 27;
        x.on(9);
        x.push();
        due("image: in the midst", x.image(), 0);
        due("push: h 4, r 1", x.push(), 5);
        due("push: h 6, r 2", x.push(), 8);
        x.on(119);
        x.push();
        x.off();
        x.mend(0, 8, 2);
        promise = 28;
        due("back: in the midst", x.back(), 0);
        due("led(0)", x.led(0), 0);
        due("led(1)", x.led(1), 1);
        due("led(2)", x.led(2), 2);
        due("led(3)", x.led(3), 0);
        due("led(4)", x.led(4), 2);
        due("led(6)", x.led(6), 1);
        due("led(7)", x.led(7), 1);
        due("back keeps what was mended", x.of(0, 8), 2);
        due("push: h 4, r 1", x.push(), 5);
        due("led(0): over at two", x.led(0), 1);
        due("back: once more", x.back(), 0);
        due("push: h 4, r 1", x.push(), 5);
        promise = 27;
        due("image: another", x.image(), 1);
        x.on(9);
        promise = 28;
        due("back: the other", x.back(), 1);
        due("led(6)", x.led(6), STATE);
        due("an image is no change", x.count(2), 3 - 1);
    }

    private static void undoAndRedo() {
        promise = 29;
        TwentyPushes x = new TwentyPushes();
        x.child(41, 0);
        x.child(41, 0);
        due("undo: none", x.undo(), STATE);
        int[][] changes = {{0, 0, 7}, {1, 1, 3}, {0, 2, 4}, {1, 3, 2}, {0, 4, 1}, {1, 5, 2}, {2, 6, 9}, {0, 7, 3}, {0, 8, 4}, {0, 9, 50}, {0, 10, 6}};
        int[] was = new int[changes.length];
        for (int k = 0; k < changes.length; k++) {
            was[k] = x.mend(changes[k][0], changes[k][1], changes[k][2]);
            x.mend(changes[k][0], changes[k][1], changes[k][2]);
            due("count(2): the same is none", x.count(2), k + 1);
        }
        for (int k = changes.length - 1; k >= 0; k--) {
            due("undo", x.undo(), k);
            due("of: as it was", x.of(changes[k][0], changes[k][1]), was[k]);
        }
        due("undo: none left", x.undo(), STATE);
        promise = 30;
        x.mend(0, 0, 4);
        x.mend(0, 0, 10);
        x.child(41, 0);
        x.on(9);
        x.push();
        for (int k = 0; k < changes.length; k++) {
            due("redo", x.redo(), changes.length - 1 - k);
            due("of: done again", x.of(changes[k][0], changes[k][1]), changes[k][2]);
        }
        due("redo: none left", x.redo(), STATE);
        due("undo", x.undo(), 10);
        due("undo", x.undo(), 9);
        x.mend(0, 9, 8);
        due("redo: another came behind", x.redo(), STATE);
        due("count(2)", x.count(2), 10);
        promise = 29;
        undoForty();
    }

    private static void undoForty() {
        TwentyPushes x = new TwentyPushes();
        for (int k = 1; k <= 45; k++) {
            x.mend(0, 9, k);
        }
        due("count(2): 40 at most", x.count(2), 40);
        for (int k = 39; k >= 0; k--) {
            due("undo", x.undo(), k);
            due("of: as it was", x.of(0, 9), k + 5);
        }
        due("undo: the older ones are forgotten", x.undo(), STATE);
        due("of(0, 9)", x.of(0, 9), 5);
        promise = 30;
        for (int k = 39; k >= 0; k--) {
            due("redo", x.redo(), k);
            due("of: done again", x.of(0, 9), 45 - k);
        }
        due("redo: none left", x.redo(), STATE);
        due("of(0, 9)", x.of(0, 9), 45);
        x.undo();
        x.mend(0, 9, 100);
        due("count(2)", x.count(2), 40);
        due("undo", x.undo(), 39);
        due("of(0, 9)", x.of(0, 9), 44);
        x.redo();
        x.mend(0, 6, 7);
        x.mend(0, 7, 3);
        due("undo: of other numbers, beyond 40", x.undo(), 39);
        due("of(0, 7)", x.of(0, 7), 2);
        due("of(0, 6)", x.of(0, 6), 7);
        due("undo: of other numbers, beyond 40", x.undo(), 38);
        due("of(0, 6)", x.of(0, 6), 6);
        due("undo: of other numbers, beyond 40", x.undo(), 37);
        due("of(0, 9)", x.of(0, 9), 44);
        x.redo();
        x.redo();
        due("of(0, 9)", x.of(0, 9), 100);
        due("of(0, 6)", x.of(0, 6), 7);
        due("of(0, 7)", x.of(0, 7), 2);
    }

    private static TwentyPushes withBodies() {
        TwentyPushes x = new TwentyPushes();
        for (int kind = 0; kind < 8; kind++) {
            x.body(kind);
        }
        return x;
    }

    private static void body() {
        promise = 31;
        TwentyPushes x = new TwentyPushes();
        allDue("body: BAD", BAD, x.body(-1), x.body(8), x.body(LEAST), x.body(MOST));
        for (int k = 0; k < 50; k++) {
            due("body", x.body(k % 8), k);
        }
        due("body: FULL", x.body(0), FULL);
        due("body: BAD goes ahead", x.body(8), BAD);
        due("count(3)", x.count(3), 50);
        due("act: n its number", x.act(48, 0, 1), 49);
    }

    private static void act() {
        promise = 32;
        TwentyPushes x = withBodies();
        // by KIND: swings, counts, waits, tells of 5
        long[][] wants = {{5, 10, 5, 9}, {9, 18, 4, 18}, {7, -14, 7, -17}, {8, -18, 18, -24},
            {12, 24, 1, 22}, {10, -22, -7, -26}, {22, 44, 3, 37}, {23, 51, 2, 45}};
        for (int kind = 0; kind < 8; kind++) {
            for (int act = 0; act < 4; act++) {
                due("act(" + kind + ", " + act + ", 5)", x.act(kind, act, 5), wants[kind][act]);
            }
        }
        due("act: wraps", x.act(1, 0, MOST), LEAST + 3);
        due("act: wraps", x.act(0, 1, 1 << 30), LEAST);
        due("act: wraps", x.act(2, 1, LEAST), -4);
        allDue("act: no such", 0, x.act(8, 0, 5), x.act(-1, 0, 5), x.act(0, 4, 5), x.act(0, -1, 5), x.act(LEAST, LEAST, LEAST), x.act(MOST, MOST, MOST));
        x.act(0, 0, 1);
        due("trace(0)", x.trace(0), 1);
        x.act(0, 4, 1);
        due("trace(0): no TRACE then", x.trace(0), BAD);
        due("count(4): none ran", x.count(4), 0);
    }

    private static void trace() {
        promise = 33;
        TwentyPushes x = withBodies();
        due("trace: ahead of any act", x.trace(0), BAD);
        int[][] wants = {{2, 10, 1, 11}, {2, 10, 20, 1, 11}, {2, 30, 10, 1, 11}, {2, 41, 30, 10, 1, 40, 11},
            {50, 2, 10, 20, 1, 11}, {61, 2, 41, 30, 10, 1, 60, 40, 11, 1}, {2, 10, 70, 1, 11}, {2, 80, 10, 81, 70, 1, 11, 11}};
        for (int kind = 0; kind < 8; kind++) {
            x.act(kind, 3, 5);
            for (int k = 0; k < wants[kind].length; k++) {
                due("trace(" + k + ") of KIND " + kind, x.trace(k), wants[kind][k]);
            }
            due("trace: behind the last", x.trace(wants[kind].length), BAD);
            due("count(4)", x.count(4), wants[kind].length);
        }
        allDue("trace: BAD", BAD, x.trace(-1), x.trace(24), x.trace(LEAST), x.trace(MOST));
    }

    private static void keep() {
        promise = 34;
        TwentyPushes x = new TwentyPushes();
        due("keep: nothing", x.keep(5, -1), 1);
        allDue("keep: BAD", BAD, x.keep(0, 0), x.keep(-1, -1), x.keep(6, -1), x.keep(0, -2), x.keep(LEAST, LEAST), x.keep(0, MOST));
        x.body(3);
        due("keep: a BODY", x.keep(0, 0), 1);
        due("taken", x.taken(0, 3), 3);
        due("keep: BAD changes nothing", x.keep(0, 1), BAD);
        due("taken", x.taken(0, 3), 3);
        due("keep: nothing", x.keep(0, -1), 1);
        due("taken", x.taken(0, 3), -11);
        x.row(0, 2, 5);
        due("keep: over a ROW", x.keep(0, 0), 1);
        due("put", x.put(0, 0, 1), -12);
    }

    private static void row() {
        promise = 35;
        TwentyPushes x = new TwentyPushes();
        allDue("row: BAD", BAD, x.row(-1, 0, 1), x.row(6, 0, 1), x.row(0, -1, 1), x.row(0, 5, 1), x.row(0, 0, 61),
                x.row(0, 5, -1), x.row(6, 0, -1), x.row(LEAST, LEAST, LEAST), x.row(0, 0, MOST));
        allDue("row: a size below 0", -14, x.row(0, 0, -1), x.row(5, 4, LEAST));
        due("put: still nothing", x.put(0, 0, 1), -11);
        for (int sort = 0; sort < 5; sort++) {
            due("row: 60", x.row(sort, sort, 60), 1);
            due("element(sort, 59)", x.element(sort, 59), 0);
            due("put(sort, 59)", x.put(sort, 59, 1), 1);
        }
        due("row: none", x.row(5, 0, 0), 1);
        due("put: no place", x.put(5, 0, 1), -13);
        x.row(0, 0, 60);
        due("row: 0 at first, again", x.element(0, 59), 0);
        due("row: another SHELF's stays", x.element(1, 59), 1);
    }

    private static void put() {
        promise = 36;
        TwentyPushes x = new TwentyPushes();
        due("put: nothing there", x.put(0, 0, 1), -11);
        x.body(0);
        x.keep(1, 0);
        due("put: a BODY", x.put(1, 0, 1), -12);
        allDue("put: BAD", BAD, x.put(-1, 0, 1), x.put(6, 0, 1), x.put(LEAST, LEAST, 1), x.put(MOST, 0, 1));
        long v = 0x123456789abcdef0L;
        long[] wants = {(byte) v, (short) v, (int) v, v, 1};
        for (int sort = 0; sort < 5; sort++) {
            x.row(2, sort, 3);
            due("put of sort " + sort, x.put(2, 1, v), 1);
            due("element", x.element(2, 1), wants[sort]);
            due("element: the one ahead", x.element(2, 0), 0);
            due("element: the one behind", x.element(2, 2), 0);
            x.put(2, 1, 0);
            due("element: 0", x.element(2, 1), 0);
            allDue("put: no such place", -13, x.put(2, -1, 1), x.put(2, 3, 1), x.put(2, LEAST, 1), x.put(2, MOST, 1));
        }
        x.put(2, 0, 1L << 40);
        due("put: a boolean is not 0", x.element(2, 0), 1);
        x.row(2, 0, 1);
        x.put(2, 0, 200);
        due("put: a byte below 0", x.element(2, 0), -56);
    }

    private static void element() {
        promise = 37;
        TwentyPushes x = new TwentyPushes();
        x.body(0);
        x.keep(1, 0);
        x.row(2, 3, 2);
        allDue("element: none", Long.MIN_VALUE, x.element(0, 0), x.element(1, 0), x.element(2, 2), x.element(2, -1),
                x.element(-1, 0), x.element(6, 0), x.element(LEAST, LEAST), x.element(2, MOST));
        x.put(2, 1, Long.MAX_VALUE);
        due("element", x.element(2, 1), Long.MAX_VALUE);
        x.put(2, 1, Long.MIN_VALUE);
        due("element", x.element(2, 1), Long.MIN_VALUE);
        due("element", x.element(2, 0), 0);
    }

    private static void shift() {
        promise = 38;
        TwentyPushes x = new TwentyPushes();
        lay(x, 0, 1, 2, 3, 4, 5);
        lay(x, 1, 9, 9, 9);
        due("shift: to another", x.shift(0, 1, 1, 0, 2), 2);
        allDue("element", 2, x.element(1, 0), x.element(0, 1));
        due("element", x.element(1, 1), 3);
        due("element", x.element(1, 2), 9);
        due("shift: the same, up", x.shift(0, 0, 0, 1, 4), 4);
        long[] up = {1, 1, 2, 3, 4};
        for (int k = 0; k < 5; k++) {
            due("element", x.element(0, k), up[k]);
        }
        due("shift: the same, down", x.shift(0, 2, 0, 1, 3), 3);
        long[] down = {1, 2, 3, 4, 4};
        for (int k = 0; k < 5; k++) {
            due("element", x.element(0, k), down[k]);
        }
        allDue("shift: none", 0, x.shift(0, 0, 1, 0, 0), x.shift(0, 5, 1, 3, 0), x.shift(0, 5, 0, 5, 0));
        allDue("shift: no such place", -13, x.shift(0, 6, 1, 0, 0), x.shift(0, 0, 1, 4, 0), x.shift(0, 0, 1, 0, 4),
                x.shift(0, 4, 1, 0, 2), x.shift(0, -1, 1, 0, 1), x.shift(0, 0, 1, -1, 1), x.shift(0, 0, 1, 0, -1),
                x.shift(0, MOST, 1, MOST, MOST), x.shift(0, 1, 1, 1, MOST), x.shift(0, LEAST, 1, LEAST, LEAST));
        x.row(2, 1, 5);
        x.body(0);
        x.keep(3, 0);
        allDue("shift: of another kind", -12, x.shift(0, 0, 2, 0, 1), x.shift(2, 0, 0, 0, 1), x.shift(0, 0, 3, 0, 1),
                x.shift(3, 0, 0, 0, 1), x.shift(3, 0, 3, 0, 0), x.shift(0, 0, 2, 0, -1));
        allDue("shift: nothing there", -11, x.shift(0, 0, 4, 0, 1), x.shift(4, 0, 0, 0, 1), x.shift(3, 0, 4, 0, 1),
                x.shift(4, 0, 3, 0, 1), x.shift(4, 0, 4, 0, 0));
        allDue("shift: BAD", BAD, x.shift(-1, 0, 0, 0, 1), x.shift(0, 0, 6, 0, 1), x.shift(4, 0, -1, 0, 1), x.shift(6, 0, 4, 0, 1));
        due("element: as it was", x.element(0, 0), 1);
    }

    private static void taken() {
        promise = 39;
        TwentyPushes x = withBodies();
        String[] above = {"0", "01", "02", "023", "014", "0235", "06", "067"};
        for (int kind = 0; kind < 8; kind++) {
            x.keep(0, kind);
            for (int k = 0; k < 8; k++) {
                due("taken: KIND " + kind + " for " + k, x.taken(0, k), above[kind].contains("" + k) ? kind : -12);
            }
        }
        due("taken: nothing there", x.taken(1, 0), -11);
        x.row(1, 0, 3);
        due("taken: a ROW", x.taken(1, 0), -12);
        allDue("taken: BAD", BAD, x.taken(-1, 0), x.taken(6, 0), x.taken(0, -1), x.taken(0, 8), x.taken(2, 8), x.taken(LEAST, LEAST), x.taken(MOST, MOST));
    }

    private static void count() {
        promise = 40;
        TwentyPushes x = new TwentyPushes();
        x.child(41, 0);
        x.child(41, 0);
        x.feed('1');
        x.feed('1');
        x.feed('1');
        x.mend(0, 8, 3);
        x.body(4);
        x.body(4);
        x.body(4);
        x.body(4);
        x.act(0, 1, 1);
        long[] wants = {2, 3, 1, 4, 3};
        for (int what = 0; what < 5; what++) {
            due("count(" + what + ")", x.count(what), wants[what]);
        }
        allDue("count: BAD", BAD, x.count(-1), x.count(5), x.count(LEAST), x.count(MOST));
        x.undo();
        due("count(2)", x.count(2), 0);
        x.law();
        due("count(1)", x.count(1), 0);
    }
}
