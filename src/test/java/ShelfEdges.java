/** Promises 37 to 43: shelves, rows, counts. */
final class ShelfEdges extends Edges {
    private static final int[] SIZES = {0, 1, 2, 59, 60};

    ShelfEdges(Sentences document) {
        super(document);
    }

    @Override
    void run() {
        sixShelves();
        rowsOfSorts();
        zeroAtFirst();
        lowestBits();
        refusals();
        keepAnswers();
        keepIsBad();
        rowAnswers();
        rowIsBad();
        putAnswers();
        putIsRefused();
        elementAnswers();
        shiftAnswers();
        shiftOfTheSame();
        shiftIsRefused();
        shiftPlaces();
        takenAnswers();
        takenIsRefused();
        countAnswers();
        countIsBad();
    }

    private void sixShelves() {
        says(37, "SHELVES 0 .. 5 each hold nothing (at first), a TREE (a BODY), or a ROW:");
        HiredShade x = new HiredShade();
        x.body(3);
        for (int shelf = 0; shelf <= 5; shelf++) {
            due("nothing at first", x.taken(shelf, 0), NOTHING_THERE);
            x.keep(shelf, 0);
            due("a tree", x.taken(shelf, 0), 3);
            x.row(shelf, LONGS, 1);
            due("a row", x.taken(shelf, 0), OTHER_KIND);
            x.put(shelf, 0, shelf + 1);
        }
        for (int shelf = 0; shelf <= 5; shelf++) {
            due("each its own", x.element(shelf, 0), shelf + 1);
        }
        for (int shelf : beyond(0, 5)) {
            due("shelf " + shelf, x.taken(shelf, 0), BAD);
        }
    }

    private void rowsOfSorts() {
        says(38, "of 0 bytes, 1 shorts, 2 ints, 3 longs, 4 booleans, of 0 .. 60 elements,");
        for (int sort = 0; sort < 5; sort++) {
            for (int size : SIZES) {
                HiredShade x = new HiredShade();
                due("sort " + sort + ", size " + size, x.row(0, sort, size), 1);
                due("the last place", x.put(0, size - 1, 1), size == 0 ? NO_PLACE : 1);
                due("behind it", x.put(0, size, 1), NO_PLACE);
            }
        }
        HiredShade x = new HiredShade();
        due("61", x.row(0, 0, 61), BAD);
        due("-1", x.row(0, 0, -1), BELOW_ZERO);
        due("nothing is there", x.put(0, 0, 0), NOTHING_THERE);
    }

    private void zeroAtFirst() {
        says(38, "0 at first (false);");
        HiredShade x = new HiredShade();
        for (int sort = 0; sort < 5; sort++) {
            x.row(0, sort, 60);
            due("the first", x.element(0, 0), 0);
            due("the last", x.element(0, 59), 0);
            for (int i = 0; i < 60; i++) {
                x.put(0, i, 77);
            }
            x.row(0, sort, 2);
            due("a new row is of 0, too", x.element(0, 1), 0);
            x.row(0, sort, 60);
            due("a new row is of 0, too", x.element(0, 59), 0);
        }
    }

    private void lowestBits() {
        says(39, "what is put in keeps its lowest bits (a boolean: whether it is not 0; 1 or 0).");
        long[] put = {0, 1, -1, 127, 128, 255, 256, -128, -129, 32767, 32768, 65535, 65536, -32769, 2147483647L, 2147483648L,
            4294967295L, 4294967296L, Long.MAX_VALUE, Long.MIN_VALUE, Long.MIN_VALUE + 1};
        HiredShade x = new HiredShade();
        for (int sort = 0; sort < 5; sort++) {
            x.row(sort, sort, 1);
        }
        for (long v : put) {
            long[] dues = {(byte) v, (short) v, (int) v, v, v == 0 ? 0 : 1};
            for (int sort = 0; sort < 5; sort++) {
                due("put " + v, x.put(sort, 0, v), 1);
                due(v + " in a row of sort " + sort, x.element(sort, 0), dues[sort]);
            }
        }
    }

    private void refusals() {
        says(39, "The host's REFUSALS: -11 nothing is there where something is wanted; -12 it is of another kind; "
            + "-13 a place that is not there; -14 a size below 0.");
        HiredShade x = new HiredShade();
        x.body(0);
        due("nothing is there", x.put(0, 0, 1), -11);
        x.keep(0, 0);
        due("of another kind", x.put(0, 0, 1), -12);
        due("a size below 0", x.row(0, 0, -1), -14);
        due("the tree is there still", x.taken(0, 0), 0);
        x.row(0, 0, 1);
        due("a place that is not there", x.put(0, 1, 1), -13);
    }

    private void keepAnswers() {
        says(37, "A SHELF holds nothing (body -1), or a TREE: 1.");
        HiredShade x = new HiredShade();
        due("nothing on a new walk", x.keep(0, -1), 1);
        for (int i = 0; i < 50; i++) {
            x.body(i == 49 ? 7 : 0);
        }
        due("the first tree", x.keep(0, 0), 1);
        due("it is there", x.taken(0, 0), 0);
        due("the last tree", x.keep(5, 49), 1);
        due("it is there", x.taken(5, 0), 7);
        due("the same on another shelf", x.keep(4, 49), 1);
        due("it is there still", x.taken(5, 0), 7);
        due("nothing", x.keep(5, -1), 1);
        due("nothing is there", x.taken(5, 0), NOTHING_THERE);
        due("the other is", x.taken(4, 0), 7);
        x.row(5, 0, 1);
        due("nothing, of a row", x.keep(5, -1), 1);
        due("nothing is there", x.put(5, 0, 1), NOTHING_THERE);
        due("the tree is kept", x.count(4), 50);
    }

    private void keepIsBad() {
        says(37, "BAD.");
        HiredShade x = new HiredShade();
        due("no tree is kept", x.keep(0, 0), BAD);
        for (int bodies = 1; bodies <= 50; bodies++) {
            x.body(1);
            due("the last", x.keep(0, bodies - 1), 1);
            due("behind it", x.keep(0, bodies), BAD);
        }
        for (int body : beyond(-1, 49)) {
            due("body " + body, x.keep(0, body), BAD);
            due("the shelf is as it was", x.taken(0, 0), 1);
        }
        for (int shelf : beyond(0, 5)) {
            due("shelf " + shelf, x.keep(shelf, 0), BAD);
            due("shelf " + shelf, x.keep(shelf, -1), BAD);
        }
    }

    private void rowAnswers() {
        says(38, "A SHELF holds a ROW: 1.");
        HiredShade x = new HiredShade();
        due("on the first shelf", x.row(0, BYTES, 3), 1);
        due("on the last shelf", x.row(5, BOOLEANS, 60), 1);
        x.put(0, 2, 9);
        due("another instead", x.row(0, INTS, 2), 1);
        due("it is shorter", x.element(0, 2), Long.MIN_VALUE);
        due("of another sort", x.put(0, 1, 1000), 1);
        due("it holds ints", x.element(0, 1), 1000);
    }

    private void rowIsBad() {
        says(38, "BAD (sort, n above 60); -14.");
        HiredShade x = new HiredShade();
        row(x, 0, SHORTS, 7, 8);
        for (int sort : beyond(0, 4)) {
            due("sort " + sort, x.row(0, sort, 1), BAD);
            due("BAD is named first, sort " + sort, x.row(0, sort, -1), BAD);
        }
        for (int shelf : beyond(0, 5)) {
            due("shelf " + shelf, x.row(shelf, 0, 1), BAD);
            due("BAD is named first, shelf " + shelf, x.row(shelf, 0, -1), BAD);
        }
        due("n 61", x.row(0, 0, 61), BAD);
        due("n highest", x.row(0, 0, HIGHEST), BAD);
        due("n -1", x.row(0, 0, -1), BELOW_ZERO);
        due("n lowest", x.row(0, 0, LOWEST), BELOW_ZERO);
        due("the row is as it was", x.element(0, 1), 8);
        due("its size, too", x.element(0, 2), Long.MIN_VALUE);
    }

    private void putAnswers() {
        says(39, "Element i of a ROW becomes v: 1.");
        HiredShade x = new HiredShade();
        x.row(0, LONGS, 60);
        due("the first", x.put(0, 0, Long.MIN_VALUE), 1);
        due("the last", x.put(0, 59, Long.MAX_VALUE), 1);
        due("the first is", x.element(0, 0), Long.MIN_VALUE);
        due("the last is", x.element(0, 59), Long.MAX_VALUE);
        due("the others are as they were", x.element(0, 1), 0);
        due("the others are as they were", x.element(0, 58), 0);
    }

    private void putIsRefused() {
        says(39, "BAD, -11, -12, -13.");
        HiredShade x = withRows(2);
        for (int shelf : beyond(0, 5)) {
            due("shelf " + shelf, x.put(shelf, 0, 1), BAD);
        }
        due("nothing", x.put(0, 0, 1), NOTHING_THERE);
        due("-11 is named ahead of -13", x.put(0, -1, 1), NOTHING_THERE);
        for (int sort = 0; sort < 5; sort++) {
            for (int i : beyond(0, 1)) {
                due("place " + i + " of sort " + sort, x.put(1 + sort, i, 1), NO_PLACE);
            }
            due("as it was", x.element(1 + sort, 0), 0);
            due("as it was", x.element(1 + sort, 1), 0);
        }
        x.keep(5, 0);
        due("a tree", x.put(5, 0, 1), OTHER_KIND);
        due("-12 is named ahead of -13", x.put(5, -1, 1), OTHER_KIND);
        x.row(4, 0, 0);
        due("a row of none", x.put(4, 0, 1), NO_PLACE);
    }

    private void elementAnswers() {
        says(40, "Element i of a ROW; Long.MIN_VALUE: BAD, -11 to -13.");
        HiredShade x = withRows(2);
        x.put(4, 1, -5);
        due("the last", x.element(4, 1), -5);
        due("the first", x.element(4, 0), 0);
        for (int shelf : beyond(0, 5)) {
            due("shelf " + shelf, x.element(shelf, 0), Long.MIN_VALUE);
        }
        due("nothing", x.element(0, 0), Long.MIN_VALUE);
        x.keep(0, 0);
        due("a tree", x.element(0, 0), Long.MIN_VALUE);
        for (int sort = 0; sort < 5; sort++) {
            for (int i : beyond(0, 1)) {
                due("place " + i + " of sort " + sort, x.element(1 + sort, i), Long.MIN_VALUE);
            }
        }
        x.row(1, LONGS, 0);
        due("a row of none", x.element(1, 0), Long.MIN_VALUE);
    }

    private void elementsAre(HiredShade x, int shelf, long... want) {
        for (int i = 0; i < want.length; i++) {
            due("element " + i, x.element(shelf, i), want[i]);
        }
        due("no more", x.element(shelf, want.length), Long.MIN_VALUE);
    }

    private void shiftAnswers() {
        says(41, "n elements of a ROW from i on come to another one (or the same) from j on, as they all were before: n.");
        for (int sort = 0; sort < 5; sort++) {
            HiredShade x = new HiredShade();
            row(x, 0, sort, 1, 0, 1, 1);
            row(x, 5, sort, 0, 0, 0);
            due("sort " + sort, x.shift(0, 2, 5, 1, 2), 2);
            elementsAre(x, 5, 0, 1, 1);
            elementsAre(x, 0, 1, 0, 1, 1);
        }
        HiredShade x = new HiredShade();
        x.row(0, LONGS, 60);
        x.row(1, LONGS, 60);
        for (int i = 0; i < 60; i++) {
            x.put(0, i, i + 1);
        }
        due("all sixty", x.shift(0, 0, 1, 0, 60), 60);
        due("the first", x.element(1, 0), 1);
        due("the last", x.element(1, 59), 60);
        due("the last alone to the first", x.shift(0, 59, 1, 0, 1), 1);
        due("the first", x.element(1, 0), 60);
        due("the second", x.element(1, 1), 2);
    }

    private void shiftOfTheSame() {
        says(41, "(or the same) from j on, as they all were before");
        HiredShade x = new HiredShade();
        row(x, 0, INTS, 1, 2, 3, 4, 5);
        due("onward", x.shift(0, 0, 0, 1, 4), 4);
        elementsAre(x, 0, 1, 1, 2, 3, 4);
        row(x, 0, INTS, 1, 2, 3, 4, 5);
        due("backward", x.shift(0, 1, 0, 0, 4), 4);
        elementsAre(x, 0, 2, 3, 4, 5, 5);
        row(x, 0, INTS, 1, 2, 3, 4, 5);
        due("onto itself", x.shift(0, 0, 0, 0, 5), 5);
        elementsAre(x, 0, 1, 2, 3, 4, 5);
        due("two steps onward", x.shift(0, 0, 0, 2, 3), 3);
        elementsAre(x, 0, 1, 2, 1, 2, 3);
    }

    private void shiftIsRefused() {
        says(41, "BAD, -11 (either), -12 (no ROWS, or of unlike sorts), -13.");
        HiredShade x = withRows(2);
        for (int shelf : beyond(0, 5)) {
            due("from shelf " + shelf, x.shift(shelf, 0, 1, 0, 1), BAD);
            due("to shelf " + shelf, x.shift(1, 0, shelf, 0, 1), BAD);
            due("BAD is named ahead of -11", x.shift(shelf, 0, 0, 0, 1), BAD);
            due("BAD is named ahead of -11", x.shift(0, 0, shelf, 0, 1), BAD);
        }
        due("from nothing", x.shift(0, 0, 1, 0, 1), NOTHING_THERE);
        due("to nothing", x.shift(1, 0, 0, 0, 1), NOTHING_THERE);
        due("from nothing to nothing", x.shift(0, 0, 0, 0, 1), NOTHING_THERE);
        due("-11 is named ahead of -13", x.shift(1, 9, 0, 9, 9), NOTHING_THERE);
        for (int sort = 0; sort < 5; sort++) {
            for (int other = 0; other < 5; other++) {
                due("sort " + sort + " to " + other, x.shift(1 + sort, 0, 1 + other, 0, 1), sort == other ? 1 : OTHER_KIND);
                due("-12 is named ahead of -13", x.shift(1 + sort, 9, 1 + other, 9, 9), sort == other ? NO_PLACE : OTHER_KIND);
                due("none of them", x.shift(1 + sort, 0, 1 + other, 0, 0), sort == other ? 0 : OTHER_KIND);
            }
        }
        x.keep(5, 0);
        due("from a tree", x.shift(5, 0, 1, 0, 1), OTHER_KIND);
        due("to a tree", x.shift(1, 0, 5, 0, 1), OTHER_KIND);
        due("from a tree to it", x.shift(5, 0, 5, 0, 0), OTHER_KIND);
        due("-11 is named ahead of -12: from a tree to nothing", x.shift(5, 0, 0, 0, 1), NOTHING_THERE);
        due("-11 is named ahead of -12: from nothing to a tree", x.shift(0, 0, 5, 0, 1), NOTHING_THERE);
    }

    private void shiftPlaces() {
        says(41, "-13.");
        HiredShade x = new HiredShade();
        row(x, 0, BYTES, 1, 2, 3);
        row(x, 1, BYTES, 4, 5);
        int[][] wrong = {{-1, 0, 1}, {0, -1, 1}, {0, 0, -1}, {3, 0, 1}, {0, 2, 1}, {2, 0, 2}, {0, 1, 2}, {0, 0, 3}, {4, 0, 0},
            {0, 3, 0}, {-1, 0, 0}, {0, -1, 0}, {LOWEST, 0, 1}, {HIGHEST, 0, 1}, {0, LOWEST, 1}, {0, HIGHEST, 1},
            {0, 0, LOWEST}, {0, 0, HIGHEST}, {1, 1, HIGHEST}, {HIGHEST, HIGHEST, HIGHEST}, {LOWEST, LOWEST, LOWEST}};
        for (int[] w : wrong) {
            due("from " + w[0] + " to " + w[1] + ", " + w[2] + " of them", x.shift(0, w[0], 1, w[1], w[2]), NO_PLACE);
        }
        elementsAre(x, 1, 4, 5);
        due("none, from the end to the end", x.shift(0, 3, 1, 2, 0), 0);
        due("none, from the beginning", x.shift(0, 0, 1, 0, 0), 0);
        elementsAre(x, 1, 4, 5);
        due("the most there is room for", x.shift(0, 1, 1, 0, 2), 2);
        elementsAre(x, 1, 2, 3);
        x.row(2, BYTES, 0);
        due("none of a row of none", x.shift(2, 0, 2, 0, 0), 0);
        due("one of a row of none", x.shift(2, 0, 1, 0, 1), NO_PLACE);
    }

    private void takenAnswers() {
        says(42, "What a SHELF holds, taken for a TREE of KIND k (0 .. 7), or under it: its KIND.");
        HiredShade x = new HiredShade();
        for (int kind = 0; kind < 8; kind++) {
            x.body(kind);
            x.keep(0, kind);
            due("for a tree", x.taken(0, 0), kind);
            due("for its own kind", x.taken(0, kind), kind);
        }
        x.keep(0, 7);
        due("a boy for a nest", x.taken(0, 4), 7);
        due("a boy for a birch", x.taken(0, 1), 7);
        due("a boy for an elm", x.taken(0, 2), OTHER_KIND);
        x.keep(0, 0);
        due("a tree for a boy", x.taken(0, 7), OTHER_KIND);
        due("the tree is there still", x.taken(0, 0), 0);
    }

    private void takenIsRefused() {
        says(42, "BAD, -11, -12.");
        HiredShade x = withRows(1);
        for (int k : beyond(0, 7)) {
            due("k " + k, x.taken(1, k), BAD);
            due("BAD is named first", x.taken(0, k), BAD);
        }
        for (int shelf : beyond(0, 5)) {
            due("shelf " + shelf, x.taken(shelf, 0), BAD);
        }
        due("nothing", x.taken(0, 0), NOTHING_THERE);
        due("nothing", x.taken(0, 7), NOTHING_THERE);
        for (int sort = 0; sort < 5; sort++) {
            due("a row of sort " + sort, x.taken(1 + sort, 0), OTHER_KIND);
        }
    }

    private void countAnswers() {
        says(43, "How many: 0 MEN, 1 SITTERS, 2 bytes on THE TAPE, 3 changes that may be UNDONE, 4 BODIES, "
            + "5 bodies that ran in the latest act().");
        HiredShade x = new HiredShade();
        counts(x, 0, 0, 0, 0, 0, 0);
        x.man(0, 0);
        x.sitter(0, 0);
        x.sitter(0, 0);
        feed(x, "abc");
        for (int i = 1; i <= 5; i++) {
            x.mend(0, 7, i);
        }
        x.undo();
        for (int i = 0; i < 5; i++) {
            x.body(7);
        }
        x.act(0, 3, 0);
        counts(x, 1, 2, 3, 4, 5, 14);
        HiredShade full = new HiredShade();
        for (int i = 0; i < 121; i++) {
            full.feed('1');
            if (i < 51) {
                full.man(0, 0);
                full.sitter(0, 0);
                full.mend(0, 0, i);
                full.body(0);
            }
        }
        full.act(49, 0, 0);
        counts(full, 7, 8, 120, 40, 50, 1);
    }

    private void counts(HiredShade x, int... dues) {
        for (int what = 0; what < 6; what++) {
            due("what " + what, x.count(what), dues[what]);
        }
    }

    private void countIsBad() {
        says(43, "BAD.");
        HiredShade x = new HiredShade();
        for (int what : beyond(0, 5)) {
            due("what " + what, x.count(what), BAD);
        }
    }
}
