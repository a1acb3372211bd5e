import java.util.Arrays;

/** Promises 17 to 22: books of light, wishes, shares, the last hour. */
final class BookEdges extends Edges {
    BookEdges(Sentences document) {
        super(document);
    }

    @Override
    void run() {
        judgedByThrees();
        lackingThree();
        noneSuch();
        howMuchShade();
        bookOnAShelf();
        judgeAnswers();
        judgeIsNot();
        stood();
        whichKind();
        stoodAnswers();
        stoodIsBad();
        who();
        whoOfSeven();
        whoAnswers();
        wish();
        wishIsNot();
        wishAnswers();
        wishOnAShelf();
        share();
        shareIsCut();
        shareIsBad();
        late();
        lateAnswers();
        lateIsBad();
    }

    private void judgedByThrees() {
        says(17, "A BOOK of light: a ROW of bytes on a SHELF: by threes X, Y, how much shade (0 .. 12) at a told HOUR:");
        HiredShade x = new HiredShade();
        x.man(12 * 6 + 5, 0);
        row(x, 5, BYTES, 4, 6, 5, 3, 6, 4, 5, 6, 0);
        due("X, then Y", x.judge(5, 0), NOT);
        row(x, 5, BYTES, 6, 4, 5);
        due("not Y, then X", x.judge(5, 0), 0);
        row(x, 5, BYTES, 5, 5, 5);
        due("at hour 4", x.judge(5, 4), NOT);
        due("not at hour 0", x.judge(5, 0), 0);
        row(x, 5, BYTES, 6, 6, 5);
        due("at the last hour", x.judge(5, 11), NOT);
        x.row(5, BYTES, 60);
        due("twenty threes", x.judge(5, 0), NOT);
        for (int three = 19; three >= 0; three--) {
            x.put(5, 3 * three + 2, 1);
            due("the first that is not so", x.judge(5, 0), three);
        }
    }

    private void lackingThree() {
        says(17, "JUDGED: the first three that is not so (none such, lacking, too); NOT.");
        int[] dues = {NOT, 0, 0, NOT, 1, 1, NOT, 2, 2};
        for (int size = 0; size < dues.length; size++) {
            HiredShade x = new HiredShade();
            x.row(0, BYTES, size);
            due("a book of " + size, x.judge(0, 0), dues[size]);
        }
        HiredShade x = new HiredShade();
        x.row(0, BYTES, 57);
        due("nineteen threes", x.judge(0, 0), NOT);
        x.row(0, BYTES, 58);
        due("two lack", x.judge(0, 0), 19);
        x.row(0, BYTES, 59);
        due("one lacks", x.judge(0, 0), 19);
        x.put(0, 5, 1);
        due("one ahead of it is not so", x.judge(0, 0), 1);
    }

    private void noneSuch() {
        says(17, "none such");
        HiredShade x = new HiredShade();
        long[][] cells = {{-1, 5}, {12, 5}, {5, -1}, {5, 12}, {127, 5}, {5, 127}, {-128, 5}, {5, -128}, {12, 0}, {0, 12}};
        for (long[] cell : cells) {
            row(x, 0, BYTES, 11, 11, 0, cell[0], cell[1], 0);
            due("X " + cell[0] + ", Y " + cell[1], x.judge(0, 0), 1);
        }
        row(x, 0, BYTES, 0, 0, 0, 11, 0, 0, 0, 11, 0, 11, 11, 0);
        due("the corners are there", x.judge(0, 0), NOT);
        row(x, 0, BYTES, 256, 511 - 244, 0);
        due("a byte keeps its lowest bits", x.judge(0, 0), NOT);
    }

    private void howMuchShade() {
        says(17, "how much shade (0 .. 12)");
        HiredShade x = lawful("12", 65, 65);
        row(x, 0, BYTES, 4, 5, 12);
        due("12 at most", x.judge(0, 0), NOT);
        for (int much : new int[] {-1, 0, 11, 13, 24, 127, -128}) {
            x.put(0, 2, much);
            due("not " + much, x.judge(0, 0), 0);
        }
        law(x, "0");
        for (int much : new int[] {-1, 1, 12, 13}) {
            x.put(0, 2, much);
            due("not " + much, x.judge(0, 0), 0);
        }
        x.put(0, 2, 0);
        due("0", x.judge(0, 0), NOT);
    }

    private void bookOnAShelf() {
        says(17, "books (a BOOK on a SHELF: BAD, -11, -12 (no ROW of bytes)).");
        HiredShade x = withRows(3);
        x.man(0, 0);
        for (int what = 0; what < 3; what++) {
            due("nothing: judge", x.judge(0, 0), NOTHING_THERE);
            due("nothing: stood", x.stood(0, 0, what), NOTHING_THERE);
            due("nothing: who", x.who(0, 0, what), NOTHING_THERE);
        }
        for (int sort = 1; sort < 5; sort++) {
            due("sort " + sort + ": judge", x.judge(1 + sort, 0), OTHER_KIND);
            due("sort " + sort + ": stood", x.stood(1 + sort, 0, 0), OTHER_KIND);
            due("sort " + sort + ": who", x.who(1 + sort, 0, 0), OTHER_KIND);
        }
        due("bytes: judge", x.judge(1, 0), NOT);
        due("bytes: stood", x.stood(1, 0, 0), 144 - 8);
        due("bytes: who", x.who(1, 0, 0), 2);
        x.keep(2, 0);
        due("a tree: judge", x.judge(2, 0), OTHER_KIND);
        due("a tree: stood", x.stood(2, 0, 0), OTHER_KIND);
        due("a tree: who", x.who(2, 0, 0), OTHER_KIND);
        for (int shelf : beyond(0, 5)) {
            due("shelf " + shelf + ": judge", x.judge(shelf, 0), BAD);
            due("shelf " + shelf + ": stood", x.stood(shelf, 0, 0), BAD);
            due("shelf " + shelf + ": who", x.who(shelf, 0, 0), BAD);
        }
    }

    private void judgeAnswers() {
        says(17, "JUDGED.");
        HiredShade x = new HiredShade();
        x.row(0, BYTES, 3);
        due("hour 0", x.judge(0, 0), NOT);
        due("hour 11", x.judge(0, 11), NOT);
        for (int hour : beyond(0, 11)) {
            due("hour " + hour, x.judge(0, hour), BAD);
            due("BAD is named ahead of -11", x.judge(1, hour), BAD);
        }
    }

    private void judgeIsNot() {
        says(17, "NOT.");
        HiredShade x = new HiredShade();
        x.row(0, BYTES, 0);
        due("an empty book", x.judge(0, 0), NOT);
        row(x, 0, BYTES, 1, 1, 1);
        due("one that is not so", x.judge(0, 0), 0);
        x.man(12 + 2, 0);
        due("one that is not so by him", x.judge(0, 0), 0);
        law(x, "1");
        due("all is so", x.judge(0, 0), NOT);
    }

    private void stood() {
        says(18, "STOOD: in how many CELLS one of MEN (all else as now) could have stood so that all is so; the least (NOT).");
        HiredShade x = lawful("s", 65);
        x.row(0, BYTES, 0);
        due("an empty book: in all", x.stood(0, 0, 0), 144);
        due("the least", x.stood(0, 0, 1), 0);
        row(x, 0, BYTES, 4, 5, 2);
        due("two steps off, and to both sides", x.stood(0, 0, 0), 3);
        due("the least", x.stood(0, 0, 1), 12 * 4 + 6);
        row(x, 0, BYTES, 0, 0, 2);
        due("the edge is in the way", x.stood(0, 0, 0), 2);
        due("the least", x.stood(0, 0, 1), 2);
        row(x, 0, BYTES, 11, 11, 1);
        due("nowhere", x.stood(0, 0, 0), 0);
        due("NOT", x.stood(0, 0, 1), NOT);
        row(x, 0, BYTES, 11, 11, 1);
        due("to the left of it, at hour 8", x.stood(0, 8, 1), 12 * 10 + 10);
        x.man(66, 0);
        row(x, 0, BYTES, 4, 5, 3);
        due("the first one: all else as now", x.stood(0, 0, 0), 3);
        due("the second one: all else as now", x.stood(0, 100, 0), 3);
        due("the second one: the least", x.stood(0, 100, 1), 12 * 4 + 6);
        row(x, 0, BYTES, 4, 5, 1);
        due("the second was away", x.stood(0, 100, 0), 144 - 12);
        row(x, 0, BYTES, 0, 11, 1);
        due("there is no cell below the last row: nowhere", x.stood(0, 4, 0), 0);
        due("there is no cell below the last row: NOT", x.stood(0, 4, 1), NOT);
        x.row(0, BYTES, 60);
        due("twenty threes", x.stood(0, 100, 0), 144 - 8);
        due("twenty threes: the least", x.stood(0, 100, 1), 0);
        x.put(0, 59, 2);
        due("the last of twenty is of the same cell", x.stood(0, 100, 0), 0);
        HiredShade y = lawful("m?s;0", 65);
        y.man(66, 2);
        y.mend(1, 2, 0);
        row(y, 0, BYTES, 4, 5, 5);
        due("the second, by his own kind, arms and number", y.stood(0, 100, 0), 1);
        due("the least", y.stood(0, 100, 1), 12 * 5 + 9);
        due("the first by his own", y.stood(0, 0, 0), 0);
        row(x, 0, BYTES, 4, 5, 3, 4);
        due("one that lacks: nowhere", x.stood(0, 0, 0), 0);
        due("one that lacks: NOT", x.stood(0, 0, 1), NOT);
        row(x, 0, BYTES, 12, 5, 0);
        due("none such: nowhere", x.stood(0, 0, 0), 0);
        due("none such: NOT", x.stood(0, 0, 1), NOT);
        due("he is where he was", x.of(0, 0), 65);
    }

    private void whichKind() {
        says(18, "WHICH KIND: by which KINDS (bits) of one all is so.");
        HiredShade x = lawful("k+1", 65);
        x.row(0, BYTES, 0);
        due("an empty book: by all", x.stood(0, 0, 2), 7);
        for (int kind = 0; kind <= 2; kind++) {
            row(x, 0, BYTES, 4, 5, kind + 1);
            due("by one", x.stood(0, 0, 2), 1 << kind);
        }
        row(x, 0, BYTES, 4, 5, 4);
        due("by none", x.stood(0, 0, 2), 0);
        row(x, 0, BYTES, 0, 5, 0);
        due("farther than a birch or an elm gives", x.stood(0, 0, 2), 3);
        row(x, 0, BYTES, 0, 5, 3);
        due("an oak gives it", x.stood(0, 0, 2), 4);
        row(x, 0, BYTES, 4, 5, 1, 4, 5);
        due("one that lacks: by none", x.stood(0, 0, 2), 0);
        due("he is of the kind he was", x.of(0, 1), 0);
    }

    private void stoodAnswers() {
        says(18, "STOOD: in how many (what 0), the least (1; NOT), WHICH KIND (2: bits).");
        HiredShade x = lawful("12", 65);
        row(x, 0, BYTES, 4, 5, 12);
        due("what 0, the first hour", x.stood(0, 0, 0), 12);
        due("what 1, the first hour", x.stood(0, 0, 1), 12 * 4 + 5);
        due("what 2, the first hour", x.stood(0, 0, 2), 7);
        due("what 0, the last hour", x.stood(0, 11, 0), 12);
        due("what 1, the last hour", x.stood(0, 11, 1), 12 * 4);
        due("what 2, the last hour", x.stood(0, 11, 2), 0);
    }

    private void stoodIsBad() {
        says(18, "mh: 100 times the man, and the HOUR).");
        HiredShade x = new HiredShade();
        x.row(0, BYTES, 0);
        due("no man", x.stood(0, 0, 0), BAD);
        x.man(0, 0);
        x.man(0, 0);
        due("the last man, the last hour", x.stood(0, 111, 0), 144);
        for (int mh : new int[] {-1, -100, 12, 99, 112, 200, 211, LOWEST, HIGHEST}) {
            due("mh " + mh, x.stood(0, mh, 0), BAD);
            due("BAD is named ahead of -11", x.stood(1, mh, 0), BAD);
        }
        for (int what : beyond(0, 2)) {
            due("what " + what, x.stood(0, 0, what), BAD);
            due("BAD is named ahead of -11", x.stood(1, 0, what), BAD);
        }
    }

    private void who() {
        says(19, "WHO: which sets of MEN (bits) were there, the others not: how many sets make all so; the least (NOT); "
            + "CERTAIN: who is in all of them (none: 0).");
        HiredShade x = lawful("m+1", 65, 65, 65, 65);
        whoBy(x, 0, 1, 0, 0);
        whoBy(x, 1, 1, 1, 1);
        whoBy(x, 3, 2, 3, 0);
        whoBy(x, 7, 2, 11, 8);
        whoBy(x, 9, 1, 14, 14);
        whoBy(x, 10, 1, 15, 15);
        whoBy(x, 11, 0, NOT, 0);
        whoBy(x, 12, 0, NOT, 0);
        whoBy(x, 13, 0, NOT, 0);
        row(x, 0, BYTES, 4, 5, 3, 4);
        due("one that lacks: none", x.who(0, 0, 0), 0);
        due("one that lacks: NOT", x.who(0, 0, 1), NOT);
        due("one that lacks: nobody is certain", x.who(0, 0, 2), 0);
        row(x, 0, BYTES, 4, 5, 3, 4, 12, 0);
        due("none such: none", x.who(0, 0, 0), 0);
        HiredShade one = lawful("12", 65);
        one.row(0, BYTES, 0);
        whoIs(one, 2, 0, 0);
        HiredShade empty = new HiredShade();
        empty.row(0, BYTES, 3);
        whoIs(empty, 1, 0, 0);
        empty.put(0, 2, 1);
        whoIs(empty, 0, NOT, 0);
    }

    private void whoBy(HiredShade x, int much, int many, int least, int certain) {
        row(x, 0, BYTES, 4, 5, much);
        whoIs(x, many, least, certain);
    }

    private void whoIs(HiredShade x, int many, int least, int certain) {
        due("how many sets", x.who(0, 0, 0), many);
        due("the least", x.who(0, 0, 1), least);
        due("certain", x.who(0, 0, 2), certain);
    }

    private void whoOfSeven() {
        says(19, "which sets of MEN (bits) were there, the others not");
        HiredShade x = lawful("2", 65, 65, 65, 65, 65, 65, 65);
        x.row(0, BYTES, 0);
        whoIs(x, 128, 0, 0);
        row(x, 0, BYTES, 4, 5, 12);
        whoIs(x, 7 + 1, 63, 0);
        row(x, 0, BYTES, 4, 5, 0);
        whoIs(x, 1, 0, 0);
        law(x, "m=6?12;0");
        row(x, 0, BYTES, 4, 5, 12);
        whoIs(x, 64, 64, 64);
        law(x, "1");
        row(x, 0, BYTES, 4, 5, 7);
        whoIs(x, 1, 127, 127);
        x.row(0, BYTES, 60);
        for (int i = 0; i < 60; i += 3) {
            x.put(0, i, 4);
            x.put(0, i + 1, 5);
            x.put(0, i + 2, 7);
        }
        whoIs(x, 1, 127, 127);
        x.put(0, 59, 6);
        whoIs(x, 0, NOT, 0);
    }

    private void whoAnswers() {
        says(19, "WHO: how many sets (what 0), the least (1; NOT), CERTAIN (2; none: 0).");
        HiredShade x = lawful("12", 65);
        row(x, 0, BYTES, 6, 5, 12);
        due("the first hour: no set", x.who(0, 0, 0), 0);
        due("the first hour: NOT", x.who(0, 0, 1), NOT);
        due("the first hour: none is certain", x.who(0, 0, 2), 0);
        due("the last hour: one set", x.who(0, 11, 0), 1);
        due("the last hour: the least", x.who(0, 11, 1), 1);
        due("the last hour: he is certain", x.who(0, 11, 2), 1);
        for (int hour : beyond(0, 11)) {
            due("hour " + hour, x.who(0, hour, 0), BAD);
            due("BAD is named ahead of -11", x.who(1, hour, 0), BAD);
        }
        for (int what : beyond(0, 2)) {
            due("what " + what, x.who(0, 0, what), BAD);
            due("BAD is named ahead of -11", x.who(1, 0, what), BAD);
        }
    }

    private void wish() {
        says(20, "WISH: a ROW of shorts: HOURS (bits 0 .. 4095) at which one SITTER was content, day by day: WANTS that all of "
            + "these hold: bits of those in all; those in none;");
        HiredShade x = new HiredShade();
        long[][] days = {{0}, {4095}, {1}, {2048}, {0, 4095}, {4095, 4095}, {0b0111, 0b1110, 0b0110}, {5, 10}};
        int[] inAll = {0, 4095, 1, 2048, 0, 4095, 0b0110, 0};
        int[] inNone = {4095, 0, 4094, 2047, 0, 0, 4080, 4080};
        for (int i = 0; i < days.length; i++) {
            row(x, 5, SHORTS, days[i]);
            due("in all of " + Arrays.toString(days[i]), x.wish(5, 0), inAll[i]);
            due("in none of " + Arrays.toString(days[i]), x.wish(5, 1), inNone[i]);
        }
        x.row(0, SHORTS, 60);
        for (int day = 0; day < 60; day++) {
            x.put(0, day, 2049);
        }
        due("sixty days: in all", x.wish(0, 0), 2049);
        x.put(0, 59, 2048);
        due("the last day counts", x.wish(0, 0), 2048);
        x.put(0, 0, 1);
        due("the first day counts", x.wish(0, 0), 0);
    }

    private void wishIsNot() {
        says(20, "NOT: the ROW has none, or one is not so.");
        HiredShade x = new HiredShade();
        x.row(0, SHORTS, 0);
        due("none: in all", x.wish(0, 0), NOT);
        due("none: in none", x.wish(0, 1), NOT);
        for (int wrong : new int[] {-1, 4096, 32767, -32768}) {
            for (int place = 0; place < 3; place++) {
                row(x, 0, SHORTS, 1, 2, 3);
                x.put(0, place, wrong);
                due(wrong + " at " + place + ": in all", x.wish(0, 0), NOT);
                due(wrong + " at " + place + ": in none", x.wish(0, 1), NOT);
            }
        }
        row(x, 0, SHORTS, 65536);
        due("a short keeps its lowest bits", x.wish(0, 0), 0);
    }

    private void wishAnswers() {
        says(20, "in all (what 0), in none (1): bits. NOT.");
        HiredShade x = new HiredShade();
        row(x, 0, SHORTS, 3, 6);
        due("what 0", x.wish(0, 0), 2);
        due("what 1", x.wish(0, 1), 4095 - 7);
        for (int what : beyond(0, 1)) {
            due("what " + what, x.wish(0, what), BAD);
            due("BAD is named ahead of -11", x.wish(1, what), BAD);
        }
    }

    private void wishOnAShelf() {
        says(20, "WISH (no ROW of shorts: -12):");
        HiredShade x = withRows(1);
        due("nothing", x.wish(0, 0), NOTHING_THERE);
        for (int sort = 0; sort < 5; sort++) {
            due("sort " + sort, x.wish(1 + sort, 0), sort == SHORTS ? 0 : OTHER_KIND);
            x.row(1 + sort, sort, 0);
            due("of no elements", x.wish(1 + sort, 0), sort == SHORTS ? NOT : OTHER_KIND);
        }
        x.keep(5, 0);
        due("a tree", x.wish(5, 0), OTHER_KIND);
        for (int shelf : beyond(0, 5)) {
            due("shelf " + shelf, x.wish(shelf, 0), BAD);
        }
    }

    private void share() {
        says(21, "SHARE: pay v (0 .. 9999) for a breeze is shared among MEN by how much shade they give to all SITTERS at an HOUR "
            + "(each by himself):");
        HiredShade x = lawful("12", 65, 65);
        x.sitter(64, 0);
        due("12 and 12 of 24, not of 12", x.share(0, 100), 50);
        due("the least pay", x.share(0, 0), 0);
        due("the most pay", x.share(0, 9999), 4999);
        for (int v : beyond(0, 9999)) {
            due("v " + v, x.share(0, v), BAD);
        }
        x.mend(1, 0, 0);
        due("all of it", x.share(0, 9999), 9999);
        due("nothing of it", x.share(100, 9999), 0);
        for (int i = 0; i < 7; i++) {
            x.sitter(64, 0);
            x.man(65, 0);
        }
        x.mend(1, 0, 65);
        due("seven men, eight sitters", x.share(600, 9999), 9999 / 7);
    }

    private void shareIsCut() {
        says(21, "v by that of one, by all (cut); nobody gives any: 0.");
        HiredShade x = lawful("m+1", 65, 65);
        due("no sitters: nobody gives any", x.share(0, 100), 0);
        x.sitter(64, 0);
        due("1 of 3", x.share(0, 100), 33);
        due("2 of 3", x.share(100, 100), 66);
        due("2 of 3 of 1", x.share(100, 1), 0);
        due("2 of 3 of 2", x.share(100, 2), 1);
        due("nobody gives any at 8", x.share(8, 9999), 0);
        due("nobody gives any at 11", x.share(111, 9999), 0);
        x.mend(0, 7, 9);
        law(x, "0");
        due("nobody gives any", x.share(0, 9999), 0);
    }

    private void shareIsBad() {
        says(21, "SHARE. BAD.");
        HiredShade x = new HiredShade();
        x.sitter(64, 0);
        due("no man", x.share(0, 0), BAD);
        for (int men = 1; men <= 7; men++) {
            x.man(65, 0);
            due("the last", x.share(100 * men - 100, 0), 0);
            due("behind him", x.share(100 * men, 0), BAD);
        }
        due("the last hour", x.share(11, 1), 0);
        due("the hour beyond", x.share(12, 1), BAD);
        due("v beyond", x.share(11, 10000), BAD);
        due("v ahead", x.share(11, -1), BAD);
    }

    private void late() {
        says(22, "LATE: the last HOUR, up to a told one, at which a SITTER was SERVED (NOT).");
        HiredShade x = lawful("12", 65);
        x.sitter(64, 0);
        int[] dues = {0, 1, 2, 3, 3, 3, 3, 3, 3, 3, 3, 3};
        for (int hour = 0; hour < 12; hour++) {
            due("up to " + hour, x.late(0, hour), dues[hour]);
        }
        x.goes(0, 69);
        for (int hour = 0; hour < 12; hour++) {
            due("up to " + hour, x.late(0, hour), hour == 11 ? 11 : NOT);
        }
        x.goes(0, 65);
        due("never", x.late(0, 11), NOT);
        x.goes(0, 64);
        law(x, "h?12;0");
        due("not yet at 0", x.late(0, 0), NOT);
        due("at 1", x.late(0, 1), 1);
    }

    private void lateAnswers() {
        says(22, "LATE.");
        HiredShade x = lawful("12", 65);
        for (int i = 0; i < 8; i++) {
            x.sitter(i == 7 ? 66 : 65, 0);
        }
        due("the last sitter, the last hour", x.late(7, 11), 11);
        due("whatever hour it is", x.late(7, 8), 8);
        x.passes();
        due("whatever hour it is", x.late(7, 8), 8);
    }

    private void lateIsBad() {
        says(22, "BAD; NOT.");
        HiredShade x = new HiredShade();
        due("no sitter", x.late(0, 0), BAD);
        for (int sitters = 1; sitters <= 8; sitters++) {
            x.sitter(64, 1);
            due("the last", x.late(sitters - 1, 0), NOT);
            due("behind him", x.late(sitters, 0), BAD);
        }
        for (int sitter : beyond(0, 7)) {
            due("sitter " + sitter, x.late(sitter, 0), BAD);
        }
        for (int hour : beyond(0, 11)) {
            due("hour " + hour, x.late(0, hour), BAD);
        }
    }
}
