/** Terms 1: TEXTS, their worth and their FAULTS. */
final class LawBounds extends Bounds {
    /** The seconds of the first ROUND: h 2, s 6, w 4, r 0, q 3, p 2; less than 0: -100 less the FAULT. */
    private static int worth(String text) {
        TwentyPushes x = with(1);
        x.mend(0, 8, 1);
        int answer = enact(x, text);
        return answer == 1 ? x.turn(9, 3, 1) : answer;
    }

    private static void fault(String text, int place) {
        is(worth(text), -100 - place);
    }

    private static String longText(int length) {
        StringBuilder text = new StringBuilder(length % 2 == 0 ? "10" : "1");
        while (text.length() < length) {
            text.append("+1");
        }
        return text.toString();
    }

    @Sentence(in = "Terms 1", says = "a TEXT by THE TAPE (at most 120 bytes)")
    static void longestText() {
        is(worth(longText(119)), 20);
        is(worth(longText(120)), 20);
        is(worth(longText(118) + "-0"), 20);
        // each byte a sign of its own
        is(worth("-" + longText(119)), 20);
        TwentyPushes x = with(1);
        feed(x, longText(118) + "*0");
        all(FULL, x.feed('+'), x.feed('9'));
        is(x.law(), 1);
        is(x.turn(9, 0, 1), 20 * 20);
    }

    @Sentence(in = "Terms 1", says = "LINES, one or more, parted by ;")
    static void lines() {
        fault("", 0);
        is(worth("5"), 5);
        is(worth("5;6"), 5);
        is(worth("0?5;6"), 6);
        is(worth("0?5;0?6;7"), 7);
        fault(";", 0);
        fault(";5", 0);
        fault("5;", 2);
        fault("5;;6", 2);
        StringBuilder most = new StringBuilder("0?1");
        for (int k = 0; k < 29; k++) {
            most.append(";0?1");
        }
        is(worth(most.toString()), 1);
        is(worth(most.substring(0, 115) + ";9"), 9);
    }

    @Sentence(in = "Terms 1", says = "LINE: E, or E ? E (what counts if the first is not 0)")
    static void line() {
        is(worth("1?5;6"), 5);
        is(worth("0?5;6"), 6);
        is(worth("-1?5;6"), 5);
        is(worth("h?5;6"), 5);
        is(worth("0|h?7;8"), 7);
        is(worth("0|r?7;8"), 8);
        is(worth("1?0|9"), 1);
        is(worth("1?h=2&w=4|q;8"), 1);
        fault("1?2?3", 3);
        fault("?5", 0);
        fault("1?", 2);
        fault("1??2", 2);
        fault("(1?2)", 2);
        fault("1?;2", 2);
    }

    @Sentence(in = "Terms 1", says = "E = A { | A }. A = B { & B }.")
    static void orAndAnd() {
        is(worth("(1|0&0)+6"), 7);
        is(worth("(0&0|1)+6"), 7);
        is(worth("((1|0)&0)+6"), 6);
        is(worth("(0|0|3)+6"), 7);
        is(worth("(2&3&0)+6"), 6);
        is(worth("(2&1<2)+6"), 7);
        is(worth("(0|2<1)+6"), 6);
    }

    @Sentence(in = "Terms 1", says = "S = P { + P, - P }. P = O { * O, / O, % O }.")
    static void sumsAndProducts() {
        is(worth("9-3-2"), 4);
        is(worth("9-3+2"), 8);
        is(worth("2+3*4"), 14);
        is(worth("(2+3)*4"), 20);
        is(worth("20-2*3"), 14);
        is(worth("100/5/2"), 10);
        is(worth("30/9*4"), 12);
        is(worth("29%10%5+6"), 10);
        is(worth("17-9%5*2"), 9);
        is(worth("-3*-4"), 12);
        is(worth("!3*4+5"), 5);
        is(worth("(3-1<2*1)+6"), 6);
    }

    @Sentence(in = "Terms 1", says = "B = S, or S < S, S = S, S > S.")
    static void oneComparison() {
        is(worth("(1<2)+(2<2)+(3<2)+5"), 6);
        is(worth("(1=2)+(2=2)+(3=2)+5"), 6);
        is(worth("(1>2)+(2>2)+(3>2)+5"), 6);
        fault("1<2<3", 3);
        fault("1=2>3", 3);
        fault("(1>2=3)", 4);
        is(worth("((1<2)=1)+6"), 7);
        is(worth("(1<2&2>1|1=2)+6"), 7);
    }

    @Sentence(in = "Terms 1", says = "O = a number (1 to 4 digits), a NAME, ! O, - O, ( E ).")
    static void operands() {
        is(worth("7"), 7);
        is(worth("0007"), 7);
        is(worth("9999/999"), 10);
        fault("12345", 4);
        fault("00007", 4);
        fault("1+12345", 6);
        fault("+", 0);
        fault("()", 1);
        fault("!", 1);
        fault("-)", 1);
        fault("2h", 1);
        fault("h2", 1);
        fault("hs", 1);
        fault("2(3)", 1);
        fault("(3)2", 3);
        fault("1!2", 1);
    }

    @Sentence(in = "Terms 1", says = "No blanks.")
    static void noBlanks() {
        fault(" 5", 0);
        fault("5 ", 1);
        fault("5 +1", 1);
        fault("5+ 1", 2);
        fault("( 5)", 1);
        fault("5; 6", 2);
        fault("5\t", 1);
        fault("5\n", 1);
    }

    @Sentence(in = "Terms 1", says = "NAMES: h HEIGHT, s LENGTH, w WEIGHT, r the ROUND (0 on), q how many wait in that QUEUE, p PUSHER.")
    static void names() {
        is(worth("h*1"), 2);
        is(worth("s*1"), 6);
        is(worth("w*1"), 4);
        is(worth("r+1"), 1);
        is(worth("q*1"), 3);
        is(worth("p+7"), 9);
        for (int letter = 0; letter < 256; letter++) {
            if ("hswrqp(!-0123456789".indexOf(letter) < 0) {
                fault(String.valueOf((char) letter), 0);
            }
        }
        TwentyPushes x = by("r+1", 4, 4);
        is(x.turn(9, 0, 1), 1 + 2 + 3 + 4);
    }

    @Sentence(in = "Terms 1", says = "At most 6 of ( ! - ahead of an O are open at once.")
    static void sixOpen() {
        is(worth("((((((7))))))"), 7);
        is(worth("------7"), 7);
        is(worth("!!!!!!7+6"), 7);
        is(worth("(-(-(!7)))+6"), 6);
        fault("(((((((7)))))))", 6);
        fault("-------7", 6);
        fault("!!!!!!!7", 6);
        fault("(-(-(!(7))))", 6);
        fault("((((((-7))))))", 6);
        fault("((((((!", 6);
        is(worth("((((((7-1))))))"), 6);
        // in each E of each LINE anew
        is(worth("((((((1))))))?((((((7))))));8"), 7);
        is(worth("------r?1;------9"), 9);
        fault("1?(((((((7)))))))", 8);
        fault("1?-------7", 8);
        fault("-------1?7", 6);
        fault("1;-------7", 8);
        is(worth("(1)+(1)+(1)+(1)+(1)+(1)+(1)+(1)"), 8);
        is(worth("-1--1--1--1--1--1--1--1"), 6);
        is(worth("((((((1))))))+((((((1))))))"), 2);
    }

    @Sentence(in = "Terms 1", says = "Ints that wrap;")
    static void wraps() {
        // 4096 * 16 * 4096 * 8 is one more than the greatest int
        String least = "(4096*16*4096*8)";
        is(worth(least + "<0?7;8"), 7);
        is(worth(least + "-1>0?7;8"), 7);
        is(worth("(" + least + "-1)+1<0?7;8"), 7);
        is(worth("-" + least + "<0?7;8"), 7);
        is(worth(least + "+" + least + "+5"), 5);
        is(worth(least + "*2+5"), 5);
        is(worth(least + "/-1<0?7;8"), 7);
        is(worth(least + "%-1+5"), 5);
        is(worth("9999*9999*9999<0?7;8"), 7);
    }

    @Sentence(in = "Terms 1", says = "/ and % toward 0, by 0 they give 0;")
    static void divisions() {
        is(worth("7/2"), 3);
        is(worth("-7/2+9"), 6);
        is(worth("7/-2+9"), 6);
        is(worth("-7/-2"), 3);
        is(worth("7%4"), 3);
        is(worth("-7%4+9"), 6);
        is(worth("7%-4"), 3);
        is(worth("-7%-4+9"), 6);
        is(worth("7/0+3"), 3);
        is(worth("7%0+3"), 3);
        is(worth("7/r+3"), 3);
        is(worth("0/0+3"), 3);
        is(worth("0%0+3"), 3);
        is(worth("-7/0*9+3"), 3);
    }

    @Sentence(in = "Terms 1", says = "| & < = > ! give 1, 0; all is worked out.")
    static void oneOrNought() {
        is(worth("(5|0)+6"), 7);
        is(worth("(5|9)+6"), 7);
        is(worth("(0|0)+6"), 6);
        is(worth("(5&9)+6"), 7);
        is(worth("(2&4)+6"), 7);
        is(worth("(5&0)+6"), 6);
        is(worth("(0&5)+6"), 6);
        is(worth("(3<4)+6"), 7);
        is(worth("(4<4)+6"), 6);
        is(worth("(4=4)+6"), 7);
        is(worth("(4=5)+6"), 6);
        is(worth("(5>4)+6"), 7);
        is(worth("(4>4)+6"), 6);
        is(worth("!5+6"), 6);
        is(worth("!-1+6"), 6);
        is(worth("!0+6"), 7);
        is(worth("(0|5/0+6)+6"), 7);
    }

    @Sentence(in = "Terms 1", says = "The first LINE without a first E, or whose first E is not 0, counts; none: 0.")
    static void whichLineCounts() {
        is(worth("5;1?6;7"), 5);
        is(worth("1?6;5;7"), 6);
        is(worth("0?6;5;7"), 5);
        is(worth("0?6;0?7;h-2?8;9"), 9);
        is(worth("0?6"), 1);
        is(worth("0?6;0?7"), 1);
        is(worth("r?6;r=0?7"), 7);
        TwentyPushes x = by("r?6;r=0?7", 3, 4);
        is(x.turn(9, 0, 1), 7 + 6 + 6);
    }

    @Sentence(in = "Terms 1", says = "FAULT: the place (from 0) of the first byte with which no TEXT goes on")
    static void firstFault() {
        fault("x", 0);
        fault(")", 0);
        fault("*5", 0);
        fault("5x", 1);
        fault("5)", 1);
        fault("5+*6", 2);
        fault("(5))", 3);
        fault("5x6x", 1);
        fault("0?5;6x", 5);
        fault("5,6", 1);
        fault("5<=6", 2);
        fault("5||6", 2);
        fault("H", 0);
        fault("5\u0000", 1);
        fault("5\u00ff", 1);
        fault(longText(119) + "x", 119);
        fault("12345678", 4);
    }

    @Sentence(in = "Terms 1", says = "the length, if it ends too early")
    static void endsTooEarly() {
        fault("", 0);
        fault("(", 1);
        fault("-", 1);
        fault("5+", 2);
        fault("(5", 2);
        fault("((5)", 4);
        fault("5?", 2);
        fault("5;", 2);
        fault("5?6;7?", 6);
        fault(longText(117) + "+(", 119);
        fault(longText(119) + "+", 120);
    }

    @Sentence(in = "Terms 1", says = "It gives seconds (held within 1 .. 20).")
    static void heldWithin() {
        is(worth("0"), 1);
        is(worth("-1"), 1);
        is(worth("-9999"), 1);
        is(worth("1"), 1);
        is(worth("2"), 2);
        is(worth("19"), 19);
        is(worth("20"), 20);
        is(worth("21"), 20);
        is(worth("9999"), 20);
    }
}
