/** Promises 1 to 6: men, sitters, their numbers. */
final class PeopleEdges extends Edges {
    PeopleEdges(Sentences document) {
        super(document);
    }

    @Override
    void run() {
        emptyWalk();
        cellsOfMen();
        cellsOfSitters();
        cellsAreRows();
        menAsTheyCome();
        kinds();
        arms();
        pay();
        sittersAsTheyCome();
        wants();
        least();
        breeze();
        manIsItsNumber();
        eighthMan();
        sitterIsItsNumber();
        ninthSitter();
        fromPlaceOn();
        byThrees();
        rowIsMissing();
        rowEnds();
        oneIsNotSo();
        sittersAreFull();
        thoseAheadCame();
        noRowOfShorts();
        whatItWas();
        mendIsBad();
        asOfMend();
        ofIsBad();
    }

    private void emptyWalk() {
        says(1, "An empty walk.");
        HiredShade x = new HiredShade();
        for (int what = 0; what < 6; what++) {
            due("count", x.count(what), 0);
            due("led", x.led(what), 0);
            due("nothing is on a shelf", x.taken(what, 0), NOTHING_THERE);
        }
        for (int hour = 0; hour < 12; hour++) {
            due("no cell has any", x.walk(hour, 0), 0);
            due("the darkest", x.walk(hour, 1), 0);
            due("served ones", x.at(hour, 0), 0);
        }
        due("misses", x.at(12, 0), 0);
        due("no man", x.of(0, 0), BAD);
        due("no sitter", x.of(0, 4), BAD);
        due("no image", x.back(), STATE);
        due("no change", x.undo(), STATE);
        due("none to do again", x.redo(), STATE);
        due("no trace", x.trace(0), BAD);
    }

    private void cellsOfMen() {
        says(2, "CELLS are 12 Y and X (X, Y 0 .. 11).");
        HiredShade x = new HiredShade();
        for (int cell : beyond(0, 143)) {
            due("man in " + cell, x.man(cell, 0), BAD);
        }
        due("nobody came", x.count(0), 0);
        due("the first cell", x.man(0, 0), 0);
        due("the last cell", x.man(143, 0), 1);
        due("he is there", x.of(0, 0), 0);
        due("he is there", x.of(1, 0), 143);
    }

    private void cellsOfSitters() {
        says(3, "CELLS are 12 Y and X (X, Y 0 .. 11).");
        HiredShade x = new HiredShade();
        for (int cell : beyond(0, 143)) {
            due("sitter in " + cell, x.sitter(cell, 0), BAD);
        }
        due("nobody came", x.count(1), 0);
        due("the first cell", x.sitter(0, 0), 0);
        due("the last cell", x.sitter(143, 0), 1);
        due("he is there", x.of(0, 4), 0);
        due("he is there", x.of(1, 4), 143);
    }

    private void cellsAreRows() {
        says(26, "CELLS are 12 Y and X (X, Y 0 .. 11).");
        HiredShade x = new HiredShade();
        x.man(12 * 4 + 7, 0);
        due("one Y less", x.steps(0, 0), 12 * 3 + 7);
        due("one X more", x.steps(0, 1), 12 * 3 + 8);
        due("one Y more", x.steps(0, 2), 12 * 4 + 8);
        due("one X less", x.steps(0, 3), 12 * 4 + 7);
        x.sitter(0, 0);
        for (int cell = 1; cell < 144; cell++) {
            due("each cell is there", x.goes(0, cell), cell - 1);
        }
    }

    private void menAsTheyCome() {
        says(2, "MEN 0 .. 6, as they come: CELL,");
        HiredShade x = new HiredShade();
        for (int man = 0; man < 7; man++) {
            due("not yet", x.of(man, 0), BAD);
            due("as they come", x.man(20 + man, 0), man);
            due("his cell", x.of(man, 0), 20 + man);
        }
        for (int man : beyond(0, 6)) {
            due("man " + man, x.of(man, 0), BAD);
        }
    }

    private void kinds() {
        says(2, "KIND (0 birch, 1 elm, 2 oak),");
        HiredShade x = new HiredShade();
        for (int kind : beyond(0, 2)) {
            due("kind " + kind, x.man(0, kind), BAD);
        }
        due("nobody came", x.count(0), 0);
        for (int kind = 0; kind <= 2; kind++) {
            due("kind " + kind, x.man(65, kind), kind);
            due("his kind", x.of(kind, 1), kind);
        }
        due("an elm's shade is no longer", x.shade(6004, 1), 0);
    }

    private void arms() {
        says(5, "ARMS (0 .. 4: how wide; 1 at first),");
        HiredShade x = lawful("1", 65);
        due("1 at first", x.of(0, 2), 1);
        due("one cell to both sides", x.walk(0, 0), 4 * 3);
        for (int arms : beyond(0, 4)) {
            due("arms " + arms, x.mend(0, 2, arms), BAD);
            due("as they were", x.of(0, 2), 1);
        }
        due("the most", x.mend(0, 2, 4), 1);
        due("four cells to both sides", x.walk(0, 0), 4 * 9);
        due("the least", x.mend(0, 2, 0), 4);
        due("none to the sides", x.walk(0, 0), 4);
    }

    private void pay() {
        says(5, "PAY (0 .. 99 an hour; 10 at first).");
        HiredShade x = new HiredShade();
        x.man(0, 0);
        due("10 at first", x.of(0, 3), 10);
        x.passes();
        due("an hour's", x.led(3), 10);
        for (int pay : beyond(0, 99)) {
            due("pay " + pay, x.mend(0, 3, pay), BAD);
            due("as it was", x.of(0, 3), 10);
        }
        due("the most", x.mend(0, 3, 99), 10);
        x.passes();
        due("an hour's", x.led(3), 10 + 99);
        due("the least", x.mend(0, 3, 0), 99);
        x.passes();
        due("an hour's", x.led(3), 10 + 99);
    }

    private void sittersAsTheyCome() {
        says(3, "SITTERS 0 .. 7, as they come: CELL,");
        HiredShade x = new HiredShade();
        for (int sitter = 0; sitter < 8; sitter++) {
            due("not yet", x.of(sitter, 4), BAD);
            due("as they come", x.sitter(30 + sitter, 0), sitter);
            due("his cell", x.of(sitter, 4), 30 + sitter);
        }
        for (int sitter : beyond(0, 7)) {
            due("sitter " + sitter, x.of(sitter, 4), BAD);
        }
    }

    private void wants() {
        says(3, "WANTS (bits 0 .. 4095: of which HOURS 0 .. 11),");
        HiredShade x = new HiredShade();
        for (int wants : beyond(0, 4095)) {
            due("wants " + wants, x.sitter(0, wants), BAD);
        }
        due("nobody came", x.count(1), 0);
        due("none", x.sitter(0, 0), 0);
        due("all", x.sitter(0, 4095), 1);
        due("none", x.of(0, 5), 0);
        due("all", x.of(1, 5), 4095);
        due("misses none", x.served(0, 1), 0);
        due("misses all", x.served(1, 1), 12);
        for (int hour = 0; hour < 12; hour++) {
            x.mend(0, 5, 1 << hour);
            for (int other = 0; other < 12; other++) {
                due("the bit of hour " + hour + " at " + other, x.at(other, 1), hour == other ? 3 : 2);
            }
        }
    }

    private void least() {
        says(5, "LEAST (1 .. 12: how much shade of twelve he must have; 6 at first).");
        HiredShade x = lawful("12", 65);
        x.sitter(64, 1);
        due("6 at first", x.of(0, 6), 6);
        for (int least : beyond(1, 12)) {
            due("least " + least, x.mend(0, 6, least), BAD);
            due("as it was", x.of(0, 6), 6);
        }
        due("the most", x.mend(0, 6, 12), 6);
        due("twelve of twelve", x.served(0, 0), 15);
        due("the least", x.mend(0, 6, 1), 12);
        law(x, "1");
        due("one of twelve", x.served(0, 0), 15);
        law(x, "0");
        due("none is never enough", x.served(0, 0), 0);
    }

    private void breeze() {
        says(5, "BREEZE (0 .. 9; 0 at first).");
        HiredShade x = new HiredShade();
        due("0 at first", x.of(0, 7), 0);
        for (int breeze : beyond(0, 9)) {
            due("breeze " + breeze, x.mend(0, 7, breeze), BAD);
            due("as it was", x.of(0, 7), 0);
        }
        due("the most", x.mend(0, 7, 9), 0);
        due("it is", x.of(0, 7), 9);
        due("the least", x.mend(0, 7, 0), 9);
        due("it is", x.of(0, 7), 0);
    }

    private void manIsItsNumber() {
        says(2, "One of MEN in a CELL: its number.");
        HiredShade x = new HiredShade();
        due("the first", x.man(7, 2), 0);
        due("another in the same cell", x.man(7, 1), 1);
        due("a third", x.man(8, 0), 2);
        int[] third = {8, 0, 1, 10};
        for (int what = 0; what < 4; what++) {
            due("what " + what, x.of(2, what), third[what]);
        }
    }

    private void eighthMan() {
        says(2, "BAD, FULL: 7.");
        HiredShade x = new HiredShade();
        for (int man = 0; man < 6; man++) {
            x.man(man, 0);
        }
        due("the seventh", x.man(6, 0), 6);
        due("the eighth", x.man(7, 0), FULL);
        due("seven are there", x.count(0), 7);
        due("BAD is named first: cell", x.man(144, 0), BAD);
        due("BAD is named first: kind", x.man(0, 3), BAD);
        due("the last is as he was", x.of(6, 0), 6);
    }

    private void sitterIsItsNumber() {
        says(3, "A SITTER in a CELL: its number.");
        HiredShade x = new HiredShade();
        due("the first", x.sitter(7, 1), 0);
        due("another in the same cell", x.sitter(7, 2), 1);
        due("a third", x.sitter(8, 3), 2);
        int[] third = {8, 3, 6};
        for (int what = 0; what < 3; what++) {
            due("what " + (4 + what), x.of(2, 4 + what), third[what]);
        }
    }

    private void ninthSitter() {
        says(3, "BAD, FULL: 8.");
        HiredShade x = new HiredShade();
        for (int sitter = 0; sitter < 7; sitter++) {
            x.sitter(sitter, 0);
        }
        due("the eighth", x.sitter(7, 0), 7);
        due("the ninth", x.sitter(8, 0), FULL);
        due("eight are there", x.count(1), 8);
        due("BAD is named first: cell", x.sitter(144, 0), BAD);
        due("BAD is named first: wants", x.sitter(0, 4096), BAD);
        due("the last is as he was", x.of(7, 4), 7);
    }

    private void fromPlaceOn() {
        says(4, "SITTERS FROM A ROW on a SHELF, from place i on, n (1 .. 8) of them: how many came.");
        HiredShade x = new HiredShade();
        long[] eight = new long[60];
        for (int i = 0; i < 60; i++) {
            eight[i] = 1 + i % 12;
        }
        row(x, 5, SHORTS, eight);
        for (int n : beyond(1, 8)) {
            due("n " + n, x.sitters(5, 0, n), BAD);
        }
        for (int shelf : beyond(0, 5)) {
            due("shelf " + shelf, x.sitters(shelf, 0, 1), BAD);
        }
        due("nobody came", x.count(1), 0);
        due("the fewest", x.sitters(5, 0, 1), 1);
        due("one came", x.count(1), 1);
        due("from a place that no three begins at", x.sitters(5, 1, 1), 1);
        due("his cell", x.of(1, 4), 2);
        due("his wants", x.of(1, 5), 3);
        due("his least", x.of(1, 6), 4);
        HiredShade y = new HiredShade();
        row(y, 0, SHORTS, eight);
        due("the most", y.sitters(0, 0, 8), 8);
        due("eight came", y.count(1), 8);
    }

    private void byThrees() {
        says(4, "SITTERS FROM A ROW of shorts, from a place on: by threes CELL, WANTS, LEAST: n of them;");
        HiredShade x = new HiredShade();
        row(x, 2, SHORTS, 0, 0, 1, 143, 4095, 12, 5, 6, 7);
        due("two of three", x.sitters(2, 0, 2), 2);
        int[][] dues = {{0, 0, 1}, {143, 4095, 12}};
        for (int sitter = 0; sitter < 2; sitter++) {
            for (int what = 0; what < 3; what++) {
                due("sitter " + sitter + ", what " + (4 + what), x.of(sitter, 4 + what), dues[sitter][what]);
            }
        }
        due("no third", x.of(2, 4), BAD);
        due("no change that may be undone", x.count(3), 0);
    }

    private void rowIsMissing() {
        says(4, "it ends where the row is missing,");
        HiredShade x = new HiredShade();
        for (int shelf = 0; shelf < 6; shelf++) {
            due("nothing is there", x.sitters(shelf, 0, 8), 0);
        }
        due("whatever the place", x.sitters(0, 61, 1), 0);
        due("BAD is named first", x.sitters(0, 0, 9), BAD);
        row(x, 0, SHORTS, 1, 1, 1);
        x.keep(0, -1);
        due("it was taken away", x.sitters(0, 0, 1), 0);
        due("nobody came", x.count(1), 0);
    }

    private void rowEnds() {
        says(4, "ends (within a three, too),");
        int[] dues = {0, 0, 0, 1, 1, 1, 2, 2};
        for (int size = 0; size < dues.length; size++) {
            HiredShade x = new HiredShade();
            long[] ones = new long[size];
            java.util.Arrays.fill(ones, 1);
            row(x, 0, SHORTS, ones);
            due("a row of " + size, x.sitters(0, 0, 8), dues[size]);
            due("those came", x.count(1), dues[size]);
        }
        HiredShade x = new HiredShade();
        long[] longest = new long[60];
        java.util.Arrays.fill(longest, 1);
        row(x, 0, SHORTS, longest);
        int[] places = {58, 59, 60, 61, -1, -2, -3, LOWEST, HIGHEST, HIGHEST - 1, HIGHEST - 2};
        for (int place : places) {
            due("from place " + place, x.sitters(0, place, 8), 0);
        }
        due("from the last three on", x.sitters(0, 57, 8), 1);
        due("from within the last but one on", x.sitters(0, 55, 8), 1);
        due("two came", x.count(1), 2);
    }

    private void oneIsNotSo() {
        says(4, "one is not so,");
        long[][] wrong = {{-1, 1, 1}, {144, 1, 1}, {1, -1, 1}, {1, 4096, 1}, {1, 1, 0}, {1, 1, 13}, {1, 1, -1},
            {-32768, 1, 1}, {1, 32767, 1}, {1, 1, 32767}};
        for (long[] w : wrong) {
            HiredShade x = new HiredShade();
            row(x, 0, SHORTS, 2, 2, 2, w[0], w[1], w[2], 3, 3, 3);
            due("the second is not so", x.sitters(0, 0, 3), 1);
            due("one came", x.count(1), 1);
            due("the first is not so", x.sitters(0, 3, 2), 0);
            due("no more came", x.count(1), 1);
            due("behind it", x.sitters(0, 6, 1), 1);
        }
        HiredShade x = new HiredShade();
        row(x, 0, SHORTS, 65536 + 143, 65536 + 4095, 65536 + 12);
        due("a short keeps its lowest bits", x.sitters(0, 0, 1), 1);
        due("his wants", x.of(0, 5), 4095);
    }

    private void sittersAreFull() {
        says(4, "or SITTERS are FULL:");
        HiredShade x = new HiredShade();
        for (int i = 0; i < 6; i++) {
            x.sitter(100, 0);
        }
        row(x, 0, SHORTS, 1, 1, 1, 2, 2, 2, 3, 3, 3);
        due("two of three", x.sitters(0, 0, 3), 2);
        due("eight are there", x.count(1), 8);
        due("the last", x.of(7, 4), 2);
        due("none", x.sitters(0, 0, 3), 0);
        due("eight are there", x.count(1), 8);
        due("the last is as he was", x.of(7, 4), 2);
        due("BAD is named first", x.sitters(0, 0, 0), BAD);
    }

    private void thoseAheadCame() {
        says(4, "those ahead came.");
        HiredShade x = new HiredShade();
        row(x, 0, SHORTS, 10, 11, 12, 20, 21, 1, 30, 31);
        due("it ends within the third", x.sitters(0, 0, 3), 2);
        due("the first came", x.of(0, 4), 10);
        due("the second came", x.of(1, 5), 21);
        due("the third did not", x.of(2, 4), BAD);
    }

    private void noRowOfShorts() {
        says(4, "BAD, -12 (no ROW of shorts; a SHELF that holds nothing is missing).");
        HiredShade x = withRows(3);
        for (int sort = 0; sort < 5; sort++) {
            for (int i = 0; i < 3; i++) {
                x.put(1 + sort, i, 1);
            }
            due("sort " + sort, x.sitters(1 + sort, 0, 1), sort == SHORTS ? 1 : OTHER_KIND);
            due("whatever the place", x.sitters(1 + sort, 60, 1), sort == SHORTS ? 0 : OTHER_KIND);
            due("BAD is named first", x.sitters(1 + sort, 0, 9), BAD);
        }
        due("nothing", x.sitters(0, 0, 1), 0);
        x.keep(0, 0);
        due("a tree", x.sitters(0, 0, 1), OTHER_KIND);
        due("one came", x.count(1), 1);
    }

    private static final int[] LEAST_OF = {0, 0, 0, 0, 0, 0, 1, 0};
    private static final int[] MOST_OF = {143, 2, 4, 99, 143, 4095, 12, 9};

    /** Two men, three sitters: of the second man and the third sitter, no number is as another's. */
    private static HiredShade two() {
        HiredShade x = new HiredShade();
        x.man(1, 0);
        x.man(2, 1);
        x.sitter(3, 4);
        x.sitter(5, 6);
        x.sitter(7, 8);
        return x;
    }

    private void whatItWas() {
        says(5, "CELL (what 0), KIND (1), ARMS (2), PAY (3) of one of MEN, CELL (4), WANTS (5), LEAST (6) of a SITTER, "
            + "BREEZE (7; number 0) becomes v: what it was.");
        int[] first = {2, 1, 1, 10, 7, 8, 6, 0};
        for (int what = 0; what < 8; what++) {
            HiredShade x = two();
            int number = what < 4 ? 1 : what < 7 ? 2 : 0;
            due("what it was, what " + what, x.mend(number, what, MOST_OF[what]), first[what]);
            due("it became", x.of(number, what), MOST_OF[what]);
            due("what it was", x.mend(number, what, LEAST_OF[what]), MOST_OF[what]);
            due("telling the same", x.mend(number, what, LEAST_OF[what]), LEAST_OF[what]);
            for (int other = 0; other < 8; other++) {
                int its = other < 4 ? 1 : other < 7 ? 2 : 0;
                due("what " + other, x.of(its, other), other == what ? LEAST_OF[what] : first[other]);
            }
            due("of the first man", x.of(0, 0), 1);
            due("of the first sitter", x.of(0, 5), 4);
        }
    }

    private void mendIsBad() {
        says(5, "BAD.");
        HiredShade x = two();
        for (int what = 0; what < 8; what++) {
            int last = what < 4 ? 1 : what < 7 ? 2 : 0;
            for (int number : beyond(0, last)) {
                due("number " + number + ", what " + what, x.mend(number, what, MOST_OF[what]), BAD);
            }
            for (int v : beyond(LEAST_OF[what], MOST_OF[what])) {
                due("v " + v + ", what " + what, x.mend(0, what, v), BAD);
            }
        }
        for (int what : beyond(0, 7)) {
            due("what " + what, x.mend(0, what, 1), BAD);
        }
        due("no change", x.count(3), 0);
        int[] first = {1, 0, 1, 10, 3, 4, 6, 0};
        for (int what = 0; what < 8; what++) {
            due("as it was", x.of(0, what), first[what]);
        }
    }

    private void asOfMend() {
        says(6, "As of mend() (0 to 7).");
        HiredShade x = two();
        int[] last = {2, 1, 1, 10, 7, 8, 6, 0};
        for (int what = 0; what < 8; what++) {
            due("what " + what, x.of(what < 4 ? 1 : what < 7 ? 2 : 0, what), last[what]);
        }
    }

    private void ofIsBad() {
        says(6, "BAD.");
        HiredShade x = two();
        for (int what = 0; what < 8; what++) {
            for (int number : beyond(0, what < 4 ? 1 : what < 7 ? 2 : 0)) {
                due("number " + number + ", what " + what, x.of(number, what), BAD);
            }
        }
        for (int what : beyond(0, 7)) {
            due("what " + what, x.of(0, what), BAD);
        }
        HiredShade full = new HiredShade();
        for (int i = 0; i < 8; i++) {
            full.man(i, 0);
            full.sitter(i, 0);
        }
        due("the last man", full.of(6, 0), 6);
        due("behind him", full.of(7, 0), BAD);
        due("the last sitter", full.of(7, 4), 7);
        due("behind him", full.of(8, 4), BAD);
    }
}
