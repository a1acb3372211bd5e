/** Promises 7 and 8: the tape, and the law that is read from it. */
final class LawEdges extends Edges {
    LawEdges(Sentences document) {
        super(document);
    }

    @Override
    void run() {
        bytesOfTheTape();
        tapeIsFull();
        longestText();
        linesPartedBySemicolons();
        lineOfOneOrTwo();
        ors();
        ands();
        comparisons();
        sums();
        products();
        operands();
        numbersOfDigits();
        noBlanks();
        names();
        mostOpen();
        wrapping();
        towardZero();
        oneOrZero();
        allIsWorkedOut();
        firstLineThatCounts();
        faultAtAByte();
        faultAtTheEnd();
        heldWithin();
        withoutText();
        tapeBecomesLaw();
        faultLeavesTheLaw();
        tapeIsEmptyThen();
    }

    /** What a law gives to the cell left of a birch, number 0, at hour 0: k 0, s 1, a 0, b 0, h 0, m 0. */
    private void gives(String text, int want) {
        HiredShade x = new HiredShade();
        x.man(65, 0);
        due("law of " + text, law(x, text), 1);
        due("value of " + text, x.shade(6400, 0), want);
    }

    private void fault(String text, int place) {
        HiredShade x = new HiredShade();
        due("law of \"" + text + "\"", law(x, text), -100 - place);
    }

    private static String times(int n, String text) {
        return text.repeat(n);
    }

    private void bytesOfTheTape() {
        says(7, "A byte (0 .. 255) comes to THE TAPE: how many it has.");
        HiredShade x = new HiredShade();
        due("the first byte", x.feed(0), 1);
        due("the last byte", x.feed(255), 2);
        for (int letter : beyond(0, 255)) {
            due("letter " + letter, x.feed(letter), BAD);
            due("how many it has", x.count(2), 2);
        }
        due("another", x.feed('1'), 3);
    }

    private void tapeIsFull() {
        says(7, "BAD, FULL (120).");
        HiredShade x = new HiredShade();
        feed(x, times(59, "0+"));
        due("the 119th", x.feed('0'), 119);
        due("the 120th", x.feed('7'), 120);
        due("the 121st", x.feed('9'), FULL);
        due("how many it has", x.count(2), 120);
        due("BAD is named first", x.feed(256), BAD);
        due("BAD is named first", x.feed(-1), BAD);
        due("the 121st did not come", x.law(), 1);
        x.man(65, 0);
        due("the 120th did", x.shade(6400, 0), 7);
        due("it takes bytes again", x.feed('1'), 1);
    }

    private void longestText() {
        says(8, "THE LAW is a TEXT by THE TAPE (at most 120 bytes):");
        gives("7", 7);
        gives(times(59, "0+") + "07", 7);
        gives(times(29, "0?1;") + "0007", 7);
        gives(times(59, "1;") + "12", 1);
        gives(times(59, "0-") + "-7", 7);
        gives("!!!!!!" + times(56, "1*") + "11", 11);
        fault(times(60, "1+"), 120);
        fault(times(60, "1;"), 120);
        fault(times(59, "1+") + "1)", 119);
        HiredShade x = new HiredShade();
        x.man(65, 0);
        for (int i = 1; i <= 3; i++) {
            due("one behind another", law(x, times(59, "0+") + "0" + i), 1);
            due("its last byte counts", x.shade(6400, 0), i);
        }
        feed(x, times(59, "0|") + "0;");
        x.feed('1');
        due("a text of 121 bytes lacks the last", x.law(), -220);
    }

    private void linesPartedBySemicolons() {
        says(8, "LINES, one or more, parted by ; .");
        gives("3", 3);
        gives("0?3;4", 4);
        gives("0?3;0?4;5", 5);
        fault("", 0);
        fault(";", 0);
        fault(";3", 0);
        fault("3;", 2);
        fault("3;;4", 2);
        fault("3;4;", 4);
        fault("3,4", 1);
        fault("3:4", 1);
    }

    private void lineOfOneOrTwo() {
        says(8, "LINE: E, or E ? E (what counts if the first is not 0).");
        gives("4", 4);
        gives("1?4", 4);
        gives("-1?4", 4);
        gives("0?4", 0);
        gives("0|2?1|0", 1);
        gives("1?0;9", 0);
        fault("?4", 0);
        fault("1?", 2);
        fault("1?;4", 2);
        fault("1??4", 2);
        fault("1?2?3", 3);
        fault("(1?2)", 2);
        fault("(1;2)", 2);
    }

    private void ors() {
        says(8, "E = A { | A }.");
        gives("0|0", 0);
        gives("0|0|0|3", 1);
        gives("1|0&0", 1);
        gives("0&0|1", 1);
        fault("|1", 0);
        fault("1|", 2);
        fault("1||1", 2);
        fault("1|&1", 2);
    }

    private void ands() {
        says(8, "A = B { & B }.");
        gives("1&2&3&4", 1);
        gives("1&2&0&4", 0);
        gives("0&1=0", 0);
        gives("0=1&0", 0);
        fault("&1", 0);
        fault("1&", 2);
        fault("1&&1", 2);
    }

    private void comparisons() {
        says(8, "B = S, or S < S, S = S, S > S.");
        gives("2<3", 1);
        gives("3<3", 0);
        gives("3=3", 1);
        gives("3=4", 0);
        gives("4>3", 1);
        gives("3>3", 0);
        gives("3>4", 0);
        gives("2<1+2", 1);
        gives("1+2<3", 0);
        gives("(1<2)<3", 1);
        for (String sign : new String[] {"<", "=", ">"}) {
            fault(sign + "1", 0);
            fault("1" + sign, 2);
            for (String other : new String[] {"<", "=", ">"}) {
                fault("1" + sign + other + "1", 2);
                fault("1" + sign + "2" + other + "3", 3);
                fault("(1" + sign + "2" + other + "3)", 4);
            }
        }
    }

    private void sums() {
        says(8, "S = P { + P, - P }.");
        gives("1+2", 3);
        gives("9-2-3", 4);
        gives("9-2+3", 10);
        gives("1+2*3", 7);
        gives("9-8/2", 5);
        gives("3--4", 7);
        gives("3+-1", 2);
        fault("+1", 0);
        fault("1+", 2);
        fault("1-", 2);
        fault("1++1", 2);
        fault("1-+1", 2);
    }

    private void products() {
        says(8, "P = O { * O, / O, % O }.");
        gives("2*3", 6);
        gives("24/4/2", 3);
        gives("9%5*2", 8);
        gives("2*9%5", 3);
        gives("2*-3*-1", 6);
        gives("!0*5", 5);
        for (String sign : new String[] {"*", "/", "%"}) {
            fault(sign + "1", 0);
            fault("1" + sign, 2);
            fault("1" + sign + sign + "1", 2);
        }
    }

    private void operands() {
        says(8, "O = a number (1 to 4 digits), a NAME, ! O, - O, ( E ).");
        gives("5", 5);
        gives("s", 1);
        gives("!k", 1);
        gives("-(0-5)", 5);
        gives("!!5", 1);
        gives("-!0+3", 2);
        gives("!-0", 1);
        gives("(0|1)+(1&1)+(1<2)", 3);
        fault("()", 1);
        fault(")", 0);
        fault("(5", 2);
        fault("(5))", 3);
        fault("5(", 1);
        fault("5!", 1);
        fault("(5)5", 3);
        fault("(5)(5)", 3);
        fault("!", 1);
        fault("-", 1);
        fault("(-)", 2);
        eachFirstByte();
    }

    /** Of all bytes, what one text of one byte may be, and what may begin a longer one. */
    private void eachFirstByte() {
        for (int letter = 0; letter < 256; letter++) {
            HiredShade x = new HiredShade();
            x.feed(letter);
            boolean whole = "0123456789ksabhm".indexOf(letter) >= 0;
            boolean begins = "(!-".indexOf(letter) >= 0;
            due("byte " + letter, x.law(), whole ? 1 : begins ? -101 : -100);
        }
    }

    private void numbersOfDigits() {
        says(8, "a number (1 to 4 digits)");
        gives("7", 7);
        gives("07", 7);
        gives("007", 7);
        gives("0007", 7);
        gives("(9999=9998+1)*3", 3);
        gives("(1234=1000+234)*3", 3);
        fault("00007", 4);
        fault("12345", 4);
        fault("1+12345", 6);
        fault("k1", 1);
        fault("1k", 1);
        fault("km", 1);
    }

    private void noBlanks() {
        says(8, "No blanks.");
        fault(" ", 0);
        fault(" 1", 0);
        fault("1 ", 1);
        fault("1 +2", 1);
        fault("1+ 2", 2);
        fault("1; 2", 2);
        fault("1\t", 1);
        fault("1\n", 1);
        fault("1\u0000", 1);
        fault("1\u00a0", 1);
    }

    private void names() {
        says(8, "NAMES: k KIND, s how many steps that way the CELL is from him (1 to LONG), a how far across it, b BREEZE, "
            + "h the HOUR, m the man.");
        HiredShade x = new HiredShade();
        x.man(0, 0);
        x.man(12 * 6 + 6, 2);
        x.mend(1, 2, 4);
        x.mend(0, 7, 9);
        // At hours 1, 7 and 11: the farthest an oak's shade goes, and the widest, to both sides.
        int[] cells = {12 * 2 + 2, 12 * 10 + 2, 12 * 3 + 2, 12 * 3 + 10, 12 * 2 + 11, 12 * 10 + 11};
        int[] hours = {1, 1, 7, 7, 11, 11};
        int[] steps = {4, 4, 3, 3, 5, 5};
        for (int i = 0; i < cells.length; i++) {
            int[] dues = {2, steps[i], 4, 9, hours[i], 1};
            for (int name = 0; name < 6; name++) {
                law(x, String.valueOf("ksabhm".charAt(name)));
                due("name " + name + " in cell " + cells[i], x.shade(100 * cells[i] + hours[i], 1), dues[name]);
            }
        }
        law(x, "s+1");
        due("the nearest step", x.shade(7700, 1), 2);
        law(x, "a+1");
        due("straight ahead", x.shade(7700, 1), 1);
        law(x, "h+1");
        due("hour 0", x.shade(7700, 1), 1);
        law(x, "m+1");
        due("man 0", x.shade(108, 0), 1);
        fault("K", 0);
        fault("c", 0);
        fault("1+S", 2);
    }

    private void mostOpen() {
        says(8, "At most 6 of ( ! - ahead of an O are open at once.");
        gives("((((((7))))))", 7);
        fault("(((((((7)))))))", 6);
        gives("!!!!!!7", 1);
        fault("!!!!!!!7", 6);
        gives("------7", 7);
        fault("-------7", 6);
        gives("-(-(!(0)))", 1);
        fault("-(-(!(!0)))", 6);
        fault("((((((-7))))))", 6);
        fault("((((((!7))))))", 6);
        gives("((((((9-2))))))", 7);
        fault("((((((9--2))))))", 8);
        fault("((((((9-(2)))))))", 8);
        gives("((((((1))))))+((((((2))))))", 3);
        gives("!!!!!!1+!!!!!!1", 2);
        gives("(((((-1+!0+8)))))", 8);
        gives("-1*-1*-1*-1*-1*-1*-1*-7", 7);
        gives("1?((((((7))))))", 7);
        fault("1?(((((((7)))))))", 8);
        gives("((((((0))))))?1;((((((7))))))", 7);
        fault("((((((", 6);
        fault("(((((((", 6);
    }

    private void wrapping() {
        says(8, "Ints that wrap;");
        gives("4096*4096*128<0", 1);
        gives("4096*4096*128-1>0", 1);
        gives("-(4096*4096*128)<0", 1);
        gives("-(4096*4096*128)=4096*4096*128", 1);
        gives("4096*4096*256+7", 7);
        gives("0-(4096*4096*128)<0", 1);
        gives("9999*9999*22<0", 1);
        gives("9999*9999*21>0", 1);
        gives("(4096*4096*128-1)+1<0", 1);
        gives("4096*4096*128/-1<0", 1);
        gives("4096*4096*128%-1+5", 5);
    }

    private void towardZero() {
        says(8, "/ and % toward 0, by 0 they give 0;");
        gives("7/2", 3);
        gives("-7/2+9", 6);
        gives("7/-2+9", 6);
        gives("-7/-2", 3);
        gives("7%4", 3);
        gives("-7%4+9", 6);
        gives("7%-4", 3);
        gives("-7%-4+9", 6);
        gives("7/0+4", 4);
        gives("7%0+4", 4);
        gives("0/0+4", 4);
        gives("0%0+4", 4);
        gives("-7/k+4", 4);
        gives("-7%(s-s)+4", 4);
        gives("4096*4096*128/0+4", 4);
    }

    private void oneOrZero() {
        says(8, "| & < = > ! give 1, 0;");
        gives("(5|3)*7", 7);
        gives("(0|-1)*7", 7);
        gives("(0|0)+2", 2);
        gives("(5&3)*7", 7);
        gives("(-1&-1)*7", 7);
        gives("(2&4)*7", 7);
        gives("(5&0)+2", 2);
        gives("(-9<-8)*7", 7);
        gives("(0-3=-3)*7", 7);
        gives("(-8>-9)*7", 7);
        gives("!0*7", 7);
        gives("!5+2", 2);
        gives("!-1+2", 2);
    }

    private void allIsWorkedOut() {
        says(8, "all is worked out.");
        gives("1|7/0", 1);
        gives("0&7%0", 0);
        gives("0?7/0;3", 3);
        gives("3;7/0", 3);
        fault("3;+", 2);
        fault("1|(", 3);
    }

    private void firstLineThatCounts() {
        says(8, "The first LINE without a first E, or whose first E is not 0, counts; none: 0.");
        gives("3;4", 3);
        gives("1?3;4", 3);
        gives("0?3;4;5", 4);
        gives("0?3;1?4;5", 4);
        gives("0?3;-1?4", 4);
        gives("0?3;0;5", 0);
        gives("0?3", 0);
        gives("0?3;0?4;0?5", 0);
        gives("k?1;a?2;b?3;h?4;m?5;s?6;7", 6);
        HiredShade x = new HiredShade();
        x.man(65, 0);
        for (int i = 0; i < 4; i++) {
            for (int longer = 0; longer < 2; longer++) {
                due("a longer law", law(x, "0?1;0?2;0?3;5"), 1);
                due("its last line", x.shade(6400, 0), 5);
            }
            due("a shorter one", law(x, i % 2 == 0 ? "0?3" : "0?3;0?4"), 1);
            due("none: nothing of the longer one is left", x.shade(6400, 0), 0);
        }
    }

    private void faultAtAByte() {
        says(8, "FAULT: the place (from 0) of the first byte with which no TEXT goes on;");
        String all = "ksabhm0123456789|&<=>+-*/%!()?;";
        eachNext("1", "0123456789", "|&<=>+-*/%?;");
        eachNext("1234", "", "|&<=>+-*/%?;");
        eachNext("k", "", "|&<=>+-*/%?;");
        eachNext("1<2", "0123456789", "|&+-*/%?;");
        eachNext("1?2", "0123456789", "|&<=>+-*/%;");
        eachNext("1?2<3", "0123456789", "|&+-*/%;");
        eachNext("1+", "ksabhm0123456789", "!(-");
        eachNext("1;", "ksabhm0123456789", "!(-");
        eachNext("(1", ")", "0123456789|&<=>+-*/%");
        eachNext("(1)", "", "|&<=>+-*/%?;");
        eachNext("!", "ksabhm0123456789", "!(-");
        eachNext("((((((", "", "ksabhm0123456789");
        eachNext("!!!!!!", "ksabhm0123456789", "");
        fault("1+" + all, 3);
        fault("12x;;", 2);
    }

    /** Behind a text's beginning: the bytes that end a whole text, and those behind which it must go on. */
    private void eachNext(String begun, String whole, String goesOn) {
        for (int letter = 0; letter < 256; letter++) {
            HiredShade x = new HiredShade();
            feed(x, begun);
            x.feed(letter);
            int ends = -100 - begun.length() - 1;
            int want = whole.indexOf(letter) >= 0 ? 1 : goesOn.indexOf(letter) >= 0 ? ends : ends + 1;
            due("\"" + begun + "\" and byte " + letter, x.law(), want);
        }
    }

    private void faultAtTheEnd() {
        says(8, "the length, if it ends too early.");
        String[] early = {"", "(", "1+", "1;", "1?", "(1", "((1)", "!", "-", "1*(2-", "1|", "1&", "1<", "0?1;", "(((((("};
        for (String text : early) {
            fault(text, text.length());
        }
    }

    private void heldWithin() {
        says(8, "It gives how much shade of twelve a CELL in his SHADE has by him (held within 0 .. 12).");
        gives("-1", 0);
        gives("0", 0);
        gives("1", 1);
        gives("11", 11);
        gives("12", 12);
        gives("13", 12);
        gives("9999", 12);
        gives("4096*4096*128", 0);
        gives("4096*4096*128-1", 12);
        HiredShade x = lawful("12", 65);
        due("a cell out of his shade", x.shade(6500, 0), 0);
        due("a cell out of his shade", x.shade(6600, 0), 0);
        x.man(65, 0);
        law(x, "m?-5;7");
        due("what is held at 0 takes nothing from another's", x.shade(6400, -1), 7);
    }

    private void withoutText() {
        says(9, "Without a text: 6, and 2 k, less s and a and b.");
        HiredShade x = new HiredShade();
        x.man(65, 0);
        x.man(65, 1);
        x.man(65, 2);
        due("birch, one step", x.shade(6400, 0), 5);
        due("elm, one step", x.shade(6400, 1), 7);
        due("oak, one step", x.shade(6400, 2), 9);
        due("birch, four steps, one across", x.shade(7300, 0), 1);
        due("elm, four steps, one across", x.shade(4900, 1), 3);
        due("oak, five steps, one across", x.shade(7200, 2), 4);
        x.mend(0, 7, 5);
        due("birch: 0", x.shade(6400, 0), 0);
        due("birch: less than 0 is held at 0", x.shade(7300, 0), 0);
        due("oak", x.shade(6400, 2), 4);
        x.mend(0, 7, 4);
        due("birch: 1", x.shade(6400, 0), 1);
        x.mend(0, 7, 9);
        due("birch", x.shade(6400, 0), 0);
        due("oak", x.shade(6400, 2), 0);
    }

    private void tapeBecomesLaw() {
        says(8, "THE TAPE becomes THE LAW: 1;");
        HiredShade x = new HiredShade();
        x.man(65, 0);
        feed(x, "3");
        due("what is on the tape is no law yet", x.shade(6400, 0), 5);
        due("law", x.law(), 1);
        due("it counts at once", x.shade(6400, 0), 3);
        feed(x, "4");
        due("the old law counts still", x.shade(6400, 0), 3);
        due("another", x.law(), 1);
        due("it counts instead", x.shade(6400, 0), 4);
    }

    private void faultLeavesTheLaw() {
        says(8, "-100 less its FAULT;");
        HiredShade x = new HiredShade();
        x.man(65, 0);
        due("an empty tape", x.law(), -100);
        due("a fault at 0", law(x, "x"), -100);
        due("still without a text", x.shade(6400, 0), 5);
        due("a law", law(x, "9"), 1);
        due("a fault at 2", law(x, "3;"), -102);
        due("the law is as it was", x.shade(6400, 0), 9);
        due("the last place of a tape", law(x, "1111" + times(57, "+1") + "+)"), -219);
        due("the law is as it was", x.shade(6400, 0), 9);
        due("the longest tape ends too early", law(x, times(60, "1+")), -220);
        due("the law is as it was", x.shade(6400, 0), 9);
        due("an empty tape", x.law(), -100);
        due("the law is as it was", x.shade(6400, 0), 9);
    }

    private void tapeIsEmptyThen() {
        says(8, "THE TAPE is empty then.");
        HiredShade x = new HiredShade();
        feed(x, "12");
        due("it has two", x.count(2), 2);
        due("law", x.law(), 1);
        due("it has none", x.count(2), 0);
        feed(x, "1)");
        due("a fault", x.law(), -101);
        due("it has none then, too", x.count(2), 0);
        due("the first byte again", x.feed('7'), 1);
        due("nothing of the old tape is left", x.law(), 1);
        x.man(65, 0);
        due("7, not 71", x.shade(6400, 0), 7);
    }
}
