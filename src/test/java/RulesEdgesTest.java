/** The document's Terms, part 3: each sentence that names an edge. Quotations are the document's. */
public final class RulesEdgesTest {
    private static final int WRONG = 1, SEVENTH = 2, NINTH = 3;
    private static final String JOINS = "|&+-*/";
    private static final String COMPARES = "<>=";
    private static final Due DUE = new Due();

    public static void main(String[] args) {
        sixtyCharacters();
        empty();
        eachCharacterBehind();
        oneComparison();
        digitsUpToSix();
        seventhDigit();
        blanks();
        eightOpen();
        ninthOpen();
        tooEarly();
        firstFault();
        faultByWriting();
        unitsAsTheyCome();
        seen();
        seenEdges();
        truths();
        divided();
        wrapped();
        binding();
        deepest();
        DUE.end();
    }

    private static void is(String call, long got, long want) {
        DUE.is(call, got, want);
    }

    private static void fault(String text, long due) {
        HotHall x = Halls.still();
        Halls.put(x, text);
        is("fault of '" + text + "'", x.fault(), due);
        is("length of '" + text + "'", x.count(4), text.length());
        x.minutes(1);
        if (due != HotHall.NONE) {
            is("speed by '" + text + "'", x.now(1), 3);
        }
    }

    /** Texts of 60 characters at most with what is put around: whether it is worked to v. */
    private static void worked(String text, String v) {
        HotHall x = Halls.still();
        Halls.put(x, "(" + text + ")-(" + v + ")+2");
        is("fault of '" + text + "'", x.fault(), HotHall.NONE);
        x.minutes(1);
        is("2 more than '" + text + "' less " + v, x.now(1), 2);
    }

    private static String many(String part, int times) {
        return part.repeat(times);
    }

    // ---- "a text of 60 characters at most"

    private static void sixtyCharacters() {
        DUE.part("60 characters");
        HotHall x = Halls.still();
        for (int i = 1; i <= 59; i++) {
            is("write", x.write(i == 1 ? '1' : ' '), i);
        }
        is("the 60th", x.write('+'), 60);
        is("the 61st", x.write('1'), HotHall.FULL);
        is("60 are there", x.count(4), 60);
        is("the 61st isn't there", x.fault(), 601);
        is("erased", x.erase(), 60);
        is("none is there", x.count(4), 0);
        is("again", x.write('2'), 1);
        is("no fault", x.fault(), HotHall.NONE);
        x.minutes(1);
        is("worked", x.now(1), 2);
        Halls.put(x, many(" ", 59) + "1");
        x.minutes(1);
        is("the 60th is read", x.now(1), 1);
        Halls.put(x, many("1*", 29) + "2");
        x.minutes(1);
        is("59 characters", x.now(1), 2);
        Halls.put(x, many("0|", 29) + "!0");
        x.minutes(1);
        is("60 characters", x.now(1), 1);
    }

    /** "FAULT (of empty ones 1)". */
    private static void empty() {
        DUE.part("empty");
        HotHall x = new HotHall();
        is("at first", x.fault(), 1);
        is("erased", x.erase(), 0);
        is("at first", x.fault(), 1);
        x.write('1');
        is("not empty", x.fault(), HotHall.NONE);
        is("erased", x.erase(), 1);
        is("empty", x.fault(), 1);
        fault(" ", 11);
        fault(many(" ", 60), 601);
    }

    // ---- "the first character that can not stand there"

    /** Each of the 128 behind texts that want a unit, behind units, and behind digits. */
    private static void eachCharacterBehind() {
        DUE.part("each character");
        // a text, how many ( are open, what it ends in (a unit is wanted, a unit, one that may have no comparison, digits)
        Object[][] rows = {{"", 0, "wants"}, {" ", 0, "wants"}, {"(", 1, "wants"}, {"!", 0, "wants"}, {"-", 0, "wants"},
            {"1|", 0, "wants"}, {"g&", 0, "wants"}, {"g<", 0, "wants"}, {"g>", 0, "wants"}, {"g= ", 0, "wants"},
            {"s+", 0, "wants"}, {"s-", 0, "wants"}, {"s* ", 0, "wants"}, {"s/", 0, "wants"}, {"(g+", 1, "wants"},
            {"((", 2, "wants"}, {"g", 0, "unit"}, {"p ", 0, "unit"}, {"s", 0, "unit"}, {"w", 0, "unit"}, {"m", 0, "unit"},
            {"f", 0, "unit"}, {"1 ", 0, "unit"}, {"(1)", 0, "unit"}, {"(g", 1, "unit"}, {"((g)", 1, "unit"},
            {"!w", 0, "unit"}, {"-w", 0, "unit"}, {"g<p", 0, "held"}, {"g>1 ", 0, "held"}, {"g=(p)", 0, "held"},
            {"(g<p", 1, "held"}, {"(g<p)", 0, "unit"}, {"(g<p)=p", 0, "held"}, {"g<p&w", 0, "unit"}, {"g<p|w", 0, "unit"},
            {"g<p+w", 0, "held"}, {"g<p*w", 0, "held"}, {"g<(p=w", 1, "held"}, {"g<(p", 1, "unit"},
            {"g<(p=w)", 0, "held"}, {"g<p&w=m", 0, "held"}, {"1", 0, "digits"}, {"12345", 0, "digits"},
            {"(1", 1, "digits"}, {"-1", 0, "digits"}};
        for (Object[] row : rows) {
            String text = (String) row[0];
            for (char c = 0; c < 128; c++) {
                fault(text + c, due(text, (Integer) row[1], (String) row[2], c));
            }
        }
    }

    private static long due(String text, int open, String end, char c) {
        int place = text.length();
        long early = 10 * (place + 1) + WRONG;
        boolean isDigit = c >= '0' && c <= '9';
        if (end.equals("wants")) {
            if (isDigit || c != 0 && "gpswmf".indexOf(c) >= 0) {
                return open == 0 ? HotHall.NONE : early;
            }
            return c == '(' || c == '!' || c == '-' || c == ' ' ? early : 10 * place + WRONG;
        }
        if (c == ' ' || isDigit && end.equals("digits")) {
            return open == 0 ? HotHall.NONE : early;
        }
        if (c == ')') {
            return open == 1 ? HotHall.NONE : open > 1 ? early : 10 * place + WRONG;
        }
        if (c != 0 && JOINS.indexOf(c) >= 0) {
            return early;
        }
        return c != 0 && COMPARES.indexOf(c) >= 0 && !end.equals("held") ? early : 10 * place + WRONG;
    }

    /** "HELD: SUM, or SUM < SUM, SUM > SUM, SUM = SUM": one of them, not two. */
    private static void oneComparison() {
        DUE.part("one comparison");
        for (int i = 0; i < 3; i++) {
            for (int k = 0; k < 3; k++) {
                char one = COMPARES.charAt(i);
                char two = COMPARES.charAt(k);
                fault("1" + one + "2" + two + "3", 31);
                fault("1" + one + "2&2" + two + "3", HotHall.NONE);
                fault("1" + one + "2|2" + two + "3", HotHall.NONE);
                fault("(1" + one + "2)" + two + "3", HotHall.NONE);
                fault("1" + one + "(2" + two + "3)", HotHall.NONE);
                fault("1" + one + "(2" + two + "3)=4", 71);
                fault("(1" + one + "2&3)" + two + "3" + one + "4", 91);
                fault("1&(1" + one + "2)+1" + two + "3", HotHall.NONE);
            }
        }
    }

    // ---- "digits (1 .. 6)", "2: a seventh digit (at the first)"

    private static void digitsUpToSix() {
        DUE.part("six digits");
        worked("7", "7");
        worked("12", "3*4");
        worked("999999", "999*1001");
        worked("100000", "1000*100");
        worked("000007", "7");
        worked("000000", "0");
        worked("0", "000");
        worked("0123", "123");
    }

    private static void seventhDigit() {
        DUE.part("seventh digit");
        fault("123456", HotHall.NONE);
        fault("1234567", SEVENTH);
        fault("12345678", SEVENTH);
        fault("0000001", SEVENTH);
        fault("0000000", SEVENTH);
        fault("999999+9999999", 70 + SEVENTH);
        fault("9999999+9999999", SEVENTH);
        fault("  1234567", 20 + SEVENTH);
        fault("(1234567", 10 + SEVENTH);
        fault("1234567x", SEVENTH);
        fault("x1234567", WRONG);
        fault("1 1234567", 20 + WRONG);
        fault("123456 7", 70 + WRONG);
        fault("123456+7", HotHall.NONE);
        fault(many(" ", 53) + "1234567", 530 + SEVENTH);
        fault(many(" ", 54) + "123456", HotHall.NONE);
    }

    // ---- "blanks anywhere but within digits"

    private static void blanks() {
        DUE.part("blanks");
        fault("1 ", HotHall.NONE);
        fault(" 1", HotHall.NONE);
        fault(" ( 1 ) ", HotHall.NONE);
        fault(" ! - 1 ", HotHall.NONE);
        fault(" 1 + 2 * 3 < 4 & g | f ", HotHall.NONE);
        fault("1 2", 21);
        fault("1  2", 31);
        fault("12 3", 31);
        fault("g p", 21);
        fault("1\t", 11);
        fault("1\n", 11);
        fault("1" + (char) 0, 11);
        worked(" 2 + 1 ", "3");
        worked(" ( 1 + 1 ) * ( 1 + 1 ) ", " 4 ");
    }

    // ---- "( VALUE )", "3: the 9th ( open"

    private static void eightOpen() {
        DUE.part("eight open");
        for (int n = 1; n <= 8; n++) {
            fault(many("(", n), 10 * n + WRONG);
            fault(many("(", n) + "1", 10 * n + 10 + WRONG);
            fault(many("(", n) + "1" + many(")", n - 1), 20 * n + WRONG);
            fault(many("(", n) + "1" + many(")", n), HotHall.NONE);
            fault(many("(", n) + "1" + many(")", n + 1), 20 * n + 10 + WRONG);
        }
        worked(many("(", 7) + "2" + many(")", 7), "2");
        fault(many("(1)+", 14) + "(1)", HotHall.NONE);
        fault(many("((1))+", 8) + "((((((((1", 571);
    }

    private static void ninthOpen() {
        DUE.part("ninth open");
        fault(many("(", 9), 80 + NINTH);
        fault(many("(", 60), 80 + NINTH);
        fault(many("(", 9) + "1" + many(")", 9), 80 + NINTH);
        fault("1+" + many("(", 9), 100 + NINTH);
        fault(many("(", 8) + "1)+(1)" + many(")", 7), HotHall.NONE);
        fault(many("(", 8) + "1)+((1", 120 + NINTH);
        fault(many("(", 8) + "1(", 90 + WRONG);
        fault(many("(", 8) + "-(", 90 + NINTH);
        fault(many("(", 8) + " !(", 100 + NINTH);
        fault(many(" ", 51) + many("(", 9), 590 + NINTH);
        fault(many(" ", 52) + many("(", 8), 600 + WRONG);
    }

    // ---- "its length: too early"

    private static void tooEarly() {
        DUE.part("too early");
        String[] texts = {"(", "!", "-", "1+", "1-", "1*", "1/", "1<", "1>", "1=", "1&", "1|", "(1", "(1)+", "1<2&", "1 + ",
            " ", "!!", "--", "((1)"};
        for (String text : texts) {
            fault(text, 10 * text.length() + WRONG);
        }
        fault(many("-", 60), 600 + WRONG);
        fault(many("-", 59) + "g", HotHall.NONE);
        fault(many("!", 59) + "g", HotHall.NONE);
    }

    /** "the first character": what comes behind it is nothing to it. */
    private static void firstFault() {
        DUE.part("first fault");
        fault("x", 1);
        fault("x(((((((((", 1);
        fault("1x1234567", 11);
        fault("1))", 11);
        fault("(1))2)", 31);
        fault("1<2<3<4", 31);
        fault("1++", 21);
        fault("1+*", 21);
        fault(many(" ", 59) + "x", 591);
        fault(many(" ", 59) + "1", HotHall.NONE);
        fault(many("1+", 29) + "1)", 591);
    }

    /** FAULT is that of the text as it is now, character by character. */
    private static void faultByWriting() {
        DUE.part("by writing");
        String text = "(1<2)*3-((g))";
        int[] due = {11, 21, 31, 41, -1, 61, -1, 81, 91, 101, 111, 121, -1};
        HotHall x = Halls.still();
        for (int i = 0; i < text.length(); i++) {
            is("write", x.write(text.charAt(i)), i + 1);
            is("fault of " + text.substring(0, i + 1), x.fault(), due[i]);
        }
        is("wrong", x.write(128), HotHall.BAD);
        is("as it was", x.fault(), HotHall.NONE);
        x.write(')');
        is("one too many", x.fault(), 131);
        x.write('1');
        is("it stays the first", x.fault(), 131);
    }

    private static void unitsAsTheyCome() {
        DUE.part("units");
        worked("--7", "7");
        worked("---7", "-7");
        worked("!!7", "1");
        worked("!-7", "0");
        worked("-!7", "0");
        worked("-!0", "-1");
        worked("- ! 0", "-1");
        worked("-(1+2)", "-3");
        worked("!(1-1)", "1");
        worked("2--3", "5");
        worked("2-!0", "1");
        worked("2*-3", "-6");
        worked("-2*3", "-6");
        worked("!2*3", "0");
        worked("!0*3", "3");
        worked("!2<3", "1");
        worked("-2<-3", "0");
    }

    // ---- what is seen

    /** "g the greatest GAUGE, p PRICE, s what is in THE STORE, w .., m .., f ..": in each minute, as it begins. */
    private static void seen() {
        DUE.part("seen");
        HotHall x = Halls.row(1);
        x.late(0);
        x.batch(0, 9, 99, -1);
        x.heat(3, 41);
        x.heat(11, 42);
        x.price(0, 43);
        x.store(44, 44, 60);
        sees(x, 'g', 42);
        sees(x, 'p', 43);
        sees(x, 's', 0);
        sees(x, 'w', 1);
        sees(x, 'm', 0);
        sees(x, 'f', 0);
        x.minutes(1);
        sees(x, 'p', 10);
        sees(x, 's', 44);
        sees(x, 'm', 1);
        sees(x, 'w', 1);
        x.minutes(2);
        sees(x, 'w', 0);
        sees(x, 'm', 3);
    }

    /** The minute that it takes is gone back on; image 0 is used. */
    private static void sees(HotHall x, char name, int v) {
        x.image(0);
        Halls.put(x, name + "=" + v);
        x.minutes(1);
        is(name + " is " + v, x.now(1), 1);
        x.from(0);
    }

    private static void seenEdges() {
        DUE.part("seen, edges");
        HotHall x = Halls.still();
        sees(x, 'w', 0);
        for (int w = 0; w < 16; w++) {
            if (w % 2 == 0) {
                x.batch(0, 9, 0, -1);
            } else {
                x.steady(0, 0, 1, 1, -1);
            }
            sees(x, 'w', w + 1);
        }
        x.minutes(1);
        sees(x, 'w', 8);
        x.minutes(1);
        sees(x, 'w', 0);
        x = Halls.row(10);
        for (int m = 0; m < 10; m++) {
            sees(x, 'f', m);
            x.batch(0, 99, 99, m);
            x.heat(m, 100000);
            x.odds(100, 100, m);
            x.minutes(1);
        }
        sees(x, 'f', 10);
        x = Halls.still();
        for (int c = 0; c < 12; c++) {
            x.late(0);
            x.heat(c, 1000 + c);
            sees(x, 'g', 1000 + c);
            x.late(1);
            x.minutes(1);
            sees(x, 'g', 1000 + c);
        }
        for (int d = 0; d <= 5; d++) {
            x = Halls.still();
            x.late(d);
            x.heat(5, 7);
            for (int m = 0; m < 7; m++) {
                sees(x, 'g', m < d ? 0 : 7);
                x.minutes(1);
            }
        }
        x = Halls.still();
        x.store(100000, 10000, 1000);
        x.minutes(10);
        sees(x, 's', 100000);
        x.price(10, 1000);
        sees(x, 'p', 1000);
        Halls.go(x, 9988);
        sees(x, 'm', 9998);
    }

    // ---- how it is worked

    /** "truths 1, 0". */
    private static void truths() {
        DUE.part("truths");
        String[][] rows = {{"5&7", "1"}, {"5&0", "0"}, {"0&5", "0"}, {"0&0", "0"}, {"5|7", "1"}, {"5|0", "1"}, {"0|5", "1"},
            {"0|0", "0"}, {"-1&-1", "1"}, {"-1|0", "1"}, {"!5", "0"}, {"!0", "1"}, {"!-1", "0"}, {"3<4", "1"}, {"4<4", "0"},
            {"5<4", "0"}, {"3>4", "0"}, {"4>4", "0"}, {"5>4", "1"}, {"3=4", "0"}, {"4=4", "1"}, {"5", "5"}, {"5+(3<4)", "6"},
            {"0&1|1", "1"}, {"1|1&0", "1"}, {"(1|1)&0", "0"}, {"3&3&3", "1"}, {"3|3|3", "1"}};
        for (String[] row : rows) {
            worked(row[0], row[1]);
        }
    }

    /** "/ cut toward 0, by 0 is 0". */
    private static void divided() {
        DUE.part("divided");
        String[][] rows = {{"7/2", "3"}, {"-7/2", "-3"}, {"7/-2", "-3"}, {"-7/-2", "3"}, {"-1/2", "0"}, {"1/2", "0"},
            {"6/6", "1"}, {"5/6", "0"}, {"7/0", "0"}, {"-7/0", "0"}, {"0/0", "0"}, {"7/0+1", "1"}, {"7/(3-3)", "0"},
            {"7/(0/0)", "0"}, {"0/7", "0"}, {"100/7/2", "7"}, {"7/2*2", "6"}, {"7*2/2", "7"}, {"1/0/0", "0"},
            {"7/!7", "0"}, {"999999/1", "999999"}};
        for (String[] row : rows) {
            worked(row[0], row[1]);
        }
    }

    /** "longs wrap": k times k is 2 to the 32nd. */
    private static void wrapped() {
        DUE.part("longs wrap");
        String most = "65536*65536*65536*32768";
        String[][] rows = {{most + "<0", "1"}, {most + "-1>0", "1"}, {most + "*2", "0"}, {"-(" + most + ")<0", "1"},
            {most + "/-1<0", "1"}, {most + "/-1+1<0", "1"}, {most + "/1<0", "1"}, {"65536*65536*65536*65536", "0"},
            {"65536*65536>0", "1"}, {"65536*32768>0", "1"}, {"0-" + most + "<0", "1"}, {most + "/0", "0"},
            {"65536*65536*65536*65535>0", "0"}};
        for (String[] row : rows) {
            worked(row[0], row[1]);
        }
    }

    /** "VALUE: BOTHS with | ..; BOTH: HELDS with &; HELD: SUM ..; SUM: TERMS with + or -; TERM: UNITS with * or /". */
    private static void binding() {
        DUE.part("binding");
        String[][] rows = {{"2+3*4", "14"}, {"2*3+4", "10"}, {"(2+3)*4", "20"}, {"2-3-4", "-5"}, {"2-(3-4)", "3"},
            {"24/4/2", "3"}, {"24/(4/2)", "12"}, {"24/4*2", "12"}, {"2-3+4", "3"}, {"2-6/3", "0"}, {"1+1<3", "1"},
            {"3>1+1", "1"}, {"2*2=4", "1"}, {"4=2*2", "1"}, {"1<2&2<1", "0"}, {"1<2|2<1", "1"}, {"0|1&0", "0"},
            {"1|0&0", "1"}, {"1&0|1", "1"}, {"2&1+1=2", "1"}, {"2=1|1", "1"}, {"2=(1|2)", "0"}, {"1+2&0", "0"},
            {"0|2+2", "1"}, {"1<(2<3)", "0"}, {"(1<2)<3", "1"}, {"2*(3+4)*5", "70"}, {"-2-2", "-4"}, {"-(2-2)", "0"},
            {"!1+1", "1"}, {"!(1+1)", "0"}, {"1-!1", "1"}};
        for (String[] row : rows) {
            worked(row[0], row[1]);
        }
    }

    /** All that can wait for its right side at once. */
    private static void deepest() {
        DUE.part("deepest");
        worked("1+(1+(1+(1+(1+(1+(1+1*1))))))", "8");
        worked("0|1&1<1+1*(0|1&1<1+1*(0|1&1<1+1*1))", "1");
        worked("0|1&1=1-1*(0|1&1=1-1*(0|1&1=1-1*!!(0|1)))", "0");
        worked(many("1-(", 6) + "2" + many(")", 6), "2");
        worked(many("1-(", 7) + "2" + many(")", 7), "-1");
        fault("1-(1-(1-(1-(1-(1-(1-(1-(1-1))))))))", HotHall.NONE);
        fault("1-(1-(1-(1-(1-(1-(1-(1-(1-(1)))))))))", 26 * 10 + NINTH);
    }
}
