/** What the tests of the document's sentences share. */
abstract class Edges {
    static final int BAD = -1, NOT = -2, FULL = -3, STATE = -5;
    static final int NOTHING_THERE = -11, OTHER_KIND = -12, NO_PLACE = -13, BELOW_ZERO = -14;
    static final int LOWEST = Integer.MIN_VALUE, HIGHEST = Integer.MAX_VALUE;
    static final int BYTES = 0, SHORTS = 1, INTS = 2, LONGS = 3, BOOLEANS = 4;

    private final Sentences document;

    Edges(Sentences document) {
        this.document = document;
    }

    abstract void run();

    void says(int promise, String words) {
        document.says(promise, words);
    }

    void due(String call, long got, long want) {
        document.due(call, got, want);
    }

    void holds(String what, boolean so) {
        document.holds(what, so);
    }

    /** The first number below, the first above, and the farthest ones. */
    static int[] beyond(int low, int high) {
        return new int[] {low - 1, high + 1, LOWEST, HIGHEST};
    }

    static void feed(HiredShade x, String text) {
        for (int i = 0; i < text.length(); i++) {
            x.feed(text.charAt(i));
        }
    }

    static int law(HiredShade x, String text) {
        feed(x, text);
        return x.law();
    }

    static void row(HiredShade x, int shelf, int sort, long... elements) {
        x.row(shelf, sort, elements.length);
        for (int i = 0; i < elements.length; i++) {
            x.put(shelf, i, elements[i]);
        }
    }

    /** A walk whose law is a text, with men of kind 0 in these cells. */
    static HiredShade lawful(String text, int... cells) {
        HiredShade x = new HiredShade();
        law(x, text);
        for (int cell : cells) {
            x.man(cell, 0);
        }
        return x;
    }

    /** Shelf 0 holds nothing, 1 to 5 rows of all sorts; the tree is kept where a test wants it. */
    static HiredShade withRows(int size) {
        HiredShade x = new HiredShade();
        for (int sort = 0; sort < 5; sort++) {
            x.row(1 + sort, sort, size);
        }
        x.body(0);
        return x;
    }
}
