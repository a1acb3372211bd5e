import java.util.ArrayList;
import java.util.Arrays;
import java.util.List;

/**
 * "What is answered so changes nothing": each refused call is made on one of two walks that are alike, and then both
 * are asked for all there is: a changed number, tape, law, image, change, trace or shelf makes them answer unlike.
 */
final class RefusalEdges extends Edges {
    interface Call {
        long on(HiredShade x);
    }

    private static final int MOST_CALLS = 512;

    RefusalEdges(Sentences document) {
        super(document);
    }

    @Override
    void run() {
        constants();
        namedFirst();
        refusedPeople();
        refusedBytes();
        refusedThoughts();
        refusedBooks();
        refusedDeeds();
        refusedTrees();
        refusedShelves();
        whenFull();
        whenNew();
        faultChangesTheTapeAlone();
        noActChangesTheTraceAlone();
        thoughtsChangeNothing();
        ownMemory();
        beyondTheLastCall();
    }

    // ---- walks that are alike

    /** Something of all there is: also a tape half fed, a change undone, an image, a trace. */
    private static HiredShade some() {
        return some("s+", true);
    }

    private static HiredShade some(String tape, boolean acts) {
        HiredShade x = new HiredShade();
        law(x, "7+k*2-s-a-b");
        x.man(65, 0);
        x.man(40, 2);
        x.man(90, 1);
        x.sitter(63, 7);
        x.sitter(52, 240);
        x.sitter(64, 4095);
        int[][] changes = {{0, 6, 4}, {1, 2, 2}, {2, 3, 5}, {0, 7, 1}, {0, 3, 20}, {2, 5, 4000}};
        for (int[] c : changes) {
            x.mend(c[0], c[1], c[2]);
        }
        x.undo();
        x.undo();
        x.passes();
        x.passes();
        x.steps(0, 1);
        x.bird(1);
        x.goes(1, 53);
        x.image();
        x.passes();
        x.steps(1, 2);
        x.bird(2);
        for (int kind = 0; kind < 8; kind++) {
            x.body(kind);
        }
        row(x, 0, BYTES, 3, 5, 5, 4, 5, 0, 9);
        row(x, 1, SHORTS, 7, 3, 11, 143, 4095, 12, 4096);
        row(x, 2, LONGS, 1L << 40, -1);
        row(x, 3, BOOLEANS, 1, 0, 1);
        x.keep(4, 5);
        if (acts) {
            x.act(7, 3, 5);
        }
        feed(x, tape);
        return x;
    }

    /** Seven men, eight sitters, 120 bytes, 40 changes, 50 bodies. */
    private static HiredShade full() {
        HiredShade x = new HiredShade();
        for (int i = 0; i < 8; i++) {
            x.man(60 + i, i % 3);
            x.sitter(70 + i, 4095 - i);
        }
        for (int i = 1; i <= 42; i++) {
            x.mend(0, 3, i);
        }
        for (int i = 0; i < 50; i++) {
            x.body(i % 8);
        }
        feed(x, "1+".repeat(59) + "+1");
        x.keep(4, 49);
        x.act(49, 3, 1);
        return x;
    }

    /** All that a walk answers; what is changed by asking comes last. */
    private static List<Long> all(HiredShade x) {
        List<Long> told = new ArrayList<>();
        for (int what = 0; what < 6; what++) {
            told.add((long) x.count(what));
            told.add((long) x.led(what));
            told.add((long) x.taken(what, 0));
            told.add((long) x.shade(6304 + what, -1));
        }
        for (int shelf = 0; shelf < 4; shelf++) {
            for (int i = 0; i < 8; i++) {
                told.add(x.element(shelf, i));
            }
        }
        for (int i = 0; i < 15; i++) {
            told.add((long) x.trace(i));
        }
        people(x, told);
        told.add((long) x.at(12, 0));
        told.add((long) x.redo());
        told.add((long) x.redo());
        told.add((long) x.of(0, 3));
        told.add((long) x.redo());
        for (int i = 0; i < 41; i++) {
            told.add((long) x.undo());
        }
        told.add((long) x.of(0, 3));
        told.add((long) x.back());
        people(x, told);
        for (int what = 0; what < 6; what++) {
            told.add((long) x.led(what));
        }
        told.add((long) x.feed('2'));
        told.add((long) x.law());
        told.add((long) x.shade(6300, -1));
        told.add((long) x.passes());
        return told;
    }

    private static void people(HiredShade x, List<Long> told) {
        int men = x.count(0);
        int sitters = x.count(1);
        for (int number = 0; number < men; number++) {
            for (int what = 0; what < 4; what++) {
                told.add((long) x.of(number, what));
            }
        }
        for (int number = 0; number < sitters; number++) {
            for (int what = 4; what < 7; what++) {
                told.add((long) x.of(number, what));
            }
        }
        told.add((long) x.of(0, 7));
    }

    private final List<Long> someTold = all(some());
    private final List<Long> fullTold = all(full());
    private final List<Long> newTold = all(new HiredShade());

    private void refused(HiredShade x, List<Long> told, String call, long want, Call made) {
        due(call, made.on(x), want);
        List<Long> now = all(x);
        for (int i = 0; i < told.size() && i < now.size(); i++) {
            due("answer " + i + " behind " + call, now.get(i), told.get(i));
        }
        due("answers behind " + call, now.size(), told.size());
    }

    private void refused(String call, long want, Call made) {
        refused(some(), someTold, call, want, made);
    }

    private static final String NOTHING = "What is answered so changes nothing.";

    private void constants() {
        says(1, "VOID is -2000000000.");
        int made = 8 + 8 + 42 + 50 + 120 + 2, counted = 4;
        holds("a full walk is asked for all within 512 calls", made + 1 + fullTold.size() + counted <= MOST_CALLS);
        due("VOID", HiredShade.VOID, -2000000000);
        due("BAD", HiredShade.BAD, -1);
        due("NOT", HiredShade.NOT, -2);
        due("FULL", HiredShade.FULL, -3);
        due("STATE", HiredShade.STATE, -5);
    }

    private void namedFirst() {
        says(41, "Answers, of several the one named first: BAD (-1): no such number, or it is not as said; NOT (-2): as told; "
            + "FULL (-3); STATE (-5): as told; -11 to -14.");
        HiredShade x = full();
        due("BAD, FULL", x.man(144, 0), BAD);
        due("BAD, FULL", x.sitter(144, 0), BAD);
        due("BAD, FULL", x.body(8), BAD);
        due("BAD, FULL", x.feed(256), BAD);
        x.mend(0, 0, 0);
        due("BAD, STATE", x.steps(0, 4), BAD);
        due("BAD, NOT", x.late(0, 12), BAD);
        due("BAD, -11", x.judge(0, 12), BAD);
        due("BAD, -11", x.wish(0, 2), BAD);
        due("BAD, -11", x.taken(0, 8), BAD);
        due("BAD, -12", x.sitters(4, 0, 0), BAD);
        due("BAD, -14", x.row(0, 5, -1), BAD);
        due("-11, -12", x.shift(4, 0, 0, 0, 1), NOTHING_THERE);
        due("-11, -13", x.put(0, 99, 1), NOTHING_THERE);
        due("-12, -13", x.put(4, 99, 1), OTHER_KIND);
        x.row(1, BYTES, 1);
        due("-12, NOT", x.wish(1, 0), OTHER_KIND);
    }

    private void refusedPeople() {
        says(2, NOTHING);
        refused("man(144, 0)", BAD, x -> x.man(144, 0));
        refused("man(-1, 0)", BAD, x -> x.man(-1, 0));
        refused("man(0, 3)", BAD, x -> x.man(0, 3));
        refused("man(0, -1)", BAD, x -> x.man(0, -1));
        says(3, NOTHING);
        refused("sitter(144, 0)", BAD, x -> x.sitter(144, 0));
        refused("sitter(-1, 0)", BAD, x -> x.sitter(-1, 0));
        refused("sitter(0, 4096)", BAD, x -> x.sitter(0, 4096));
        refused("sitter(0, -1)", BAD, x -> x.sitter(0, -1));
        says(4, NOTHING);
        refused("sitters(1, 3, 0)", BAD, x -> x.sitters(1, 3, 0));
        refused("sitters(1, 3, 9)", BAD, x -> x.sitters(1, 3, 9));
        refused("sitters(6, 3, 1)", BAD, x -> x.sitters(6, 3, 1));
        refused("sitters(-1, 3, 1)", BAD, x -> x.sitters(-1, 3, 1));
        refused("sitters of bytes", OTHER_KIND, x -> x.sitters(0, 0, 1));
        refused("sitters of a tree", OTHER_KIND, x -> x.sitters(4, 0, 1));
        refused("sitters of nothing", 0, x -> x.sitters(5, 0, 8));
        refused("sitters of one that is not so", 0, x -> x.sitters(1, 4, 1));
        refused("sitters behind the end", 0, x -> x.sitters(1, 5, 1));
        refused("sitters ahead of the row", 0, x -> x.sitters(1, -1, 1));
        says(5, NOTHING);
        int[] low = {0, 0, 0, 0, 0, 0, 1, 0};
        int[] high = {143, 2, 4, 99, 143, 4095, 12, 9};
        for (int w = 0; w < 8; w++) {
            int what = w;
            refused("mend below, what " + what, BAD, x -> x.mend(0, what, low[what] - 1));
            refused("mend above, what " + what, BAD, x -> x.mend(0, what, high[what] + 1));
            refused("mend of number 3, what " + what, BAD, x -> x.mend(3, what, high[what]));
            refused("mend of number -1, what " + what, BAD, x -> x.mend(-1, what, high[what]));
        }
        refused("mend of what 8", BAD, x -> x.mend(0, 8, 1));
        refused("mend of what -1", BAD, x -> x.mend(0, -1, 1));
        refused("mend to what it is", 1, x -> x.mend(0, 7, 1));
        says(6, NOTHING);
        refused("of(3, 0)", BAD, x -> x.of(3, 0));
        refused("of(0, 8)", BAD, x -> x.of(0, 8));
    }

    private void refusedBytes() {
        says(7, NOTHING);
        refused("feed(-1)", BAD, x -> x.feed(-1));
        refused("feed(256)", BAD, x -> x.feed(256));
    }

    private void refusedThoughts() {
        says(9, NOTHING);
        refused("shade(12, -1)", BAD, x -> x.shade(12, -1));
        refused("shade(0, 3)", BAD, x -> x.shade(0, 3));
        says(10, NOTHING);
        refused("walk(12, 0)", BAD, x -> x.walk(12, 0));
        says(11, NOTHING);
        refused("served(3, 0)", BAD, x -> x.served(3, 0));
        says(12, NOTHING);
        refused("at(12, 1)", BAD, x -> x.at(12, 1));
        says(13, NOTHING);
        refused("enough(5)", BAD, x -> x.enough(5));
        says(14, NOTHING);
        refused("roster(13)", BAD, x -> x.roster(13));
        says(15, NOTHING);
        refused("oneMore(3, 0)", BAD, x -> x.oneMore(3, 0));
        says(16, NOTHING);
        refused("step(3, 0)", BAD, x -> x.step(3, 0));
    }

    private void refusedBooks() {
        says(17, NOTHING);
        refused("judge(6, 0)", BAD, x -> x.judge(6, 0));
        refused("judge(5, 0)", NOTHING_THERE, x -> x.judge(5, 0));
        refused("judge(1, 0)", OTHER_KIND, x -> x.judge(1, 0));
        refused("judge(4, 0)", OTHER_KIND, x -> x.judge(4, 0));
        says(18, NOTHING);
        refused("stood(0, 300, 0)", BAD, x -> x.stood(0, 300, 0));
        refused("stood(5, 0, 0)", NOTHING_THERE, x -> x.stood(5, 0, 0));
        refused("stood(1, 0, 0)", OTHER_KIND, x -> x.stood(1, 0, 0));
        refused("stood(0, 0, 1)", NOT, x -> x.stood(0, 0, 1));
        says(19, NOTHING);
        refused("who(0, 12, 0)", BAD, x -> x.who(0, 12, 0));
        refused("who(5, 0, 0)", NOTHING_THERE, x -> x.who(5, 0, 0));
        refused("who(4, 0, 0)", OTHER_KIND, x -> x.who(4, 0, 0));
        refused("who(0, 0, 1)", NOT, x -> x.who(0, 0, 1));
        says(20, NOTHING);
        refused("wish(1, 2)", BAD, x -> x.wish(1, 2));
        refused("wish(5, 0)", NOTHING_THERE, x -> x.wish(5, 0));
        refused("wish(0, 0)", OTHER_KIND, x -> x.wish(0, 0));
        refused("wish(1, 0)", NOT, x -> x.wish(1, 0));
        says(21, NOTHING);
        refused("share(300, 0)", BAD, x -> x.share(300, 0));
        refused("share(0, 10000)", BAD, x -> x.share(0, 10000));
        says(22, NOTHING);
        refused("late(3, 0)", BAD, x -> x.late(3, 0));
        refused("late(0, 12)", BAD, x -> x.late(0, 12));
        says(23, NOTHING);
        refused("byTurns(30, 1, 0)", BAD, x -> x.byTurns(30, 1, 0));
        refused("byTurns(0, 5, 0)", BAD, x -> x.byTurns(0, 5, 0));
        says(24, NOTHING);
        refused("drawn(0, 113, -1)", BAD, x -> x.drawn(0, 113, -1));
        refused("drawn(0, 100, 3)", BAD, x -> x.drawn(0, 100, 3));
    }

    private void refusedDeeds() {
        says(26, NOTHING);
        refused("steps(3, 0)", BAD, x -> x.steps(3, 0));
        refused("steps(0, 4)", BAD, x -> x.steps(0, 4));
        refused("steps(0, -1)", BAD, x -> x.steps(0, -1));
        says(27, NOTHING);
        refused("bird(3)", BAD, x -> x.bird(3));
        refused("bird(-1)", BAD, x -> x.bird(-1));
        says(28, NOTHING);
        refused("goes(3, 0)", BAD, x -> x.goes(3, 0));
        refused("goes(0, 144)", BAD, x -> x.goes(0, 144));
        refused("goes(0, -1)", BAD, x -> x.goes(0, -1));
        says(29, NOTHING);
        refused("led(6)", BAD, x -> x.led(6));
        refused("led(-1)", BAD, x -> x.led(-1));
    }

    private void refusedTrees() {
        says(34, NOTHING);
        refused("body(8)", BAD, x -> x.body(8));
        refused("body(-1)", BAD, x -> x.body(-1));
        says(36, NOTHING);
        refused("trace(24)", BAD, x -> x.trace(24));
        refused("trace(-1)", BAD, x -> x.trace(-1));
    }

    private void refusedShelves() {
        says(37, NOTHING);
        refused("keep(0, 8)", BAD, x -> x.keep(0, 8));
        refused("keep(0, -2)", BAD, x -> x.keep(0, -2));
        refused("keep(6, 0)", BAD, x -> x.keep(6, 0));
        refused("keep(-1, -1)", BAD, x -> x.keep(-1, -1));
        says(38, NOTHING);
        refused("row(0, 5, 1)", BAD, x -> x.row(0, 5, 1));
        refused("row(0, -1, 1)", BAD, x -> x.row(0, -1, 1));
        refused("row(0, 0, 61)", BAD, x -> x.row(0, 0, 61));
        refused("row(4, 0, -1)", BELOW_ZERO, x -> x.row(4, 0, -1));
        refused("row(1, 1, -1)", BELOW_ZERO, x -> x.row(1, 1, -1));
        refused("row(6, 0, 1)", BAD, x -> x.row(6, 0, 1));
        says(39, NOTHING);
        refused("put(5, 0, 9)", NOTHING_THERE, x -> x.put(5, 0, 9));
        refused("put(4, 0, 9)", OTHER_KIND, x -> x.put(4, 0, 9));
        refused("put(0, 7, 9)", NO_PLACE, x -> x.put(0, 7, 9));
        refused("put(0, -1, 9)", NO_PLACE, x -> x.put(0, -1, 9));
        refused("put(6, 0, 9)", BAD, x -> x.put(6, 0, 9));
        says(40, NOTHING);
        refused("element(0, 7)", Long.MIN_VALUE, x -> x.element(0, 7));
        refused("element(5, 0)", Long.MIN_VALUE, x -> x.element(5, 0));
        says(41, NOTHING);
        refused("shift(0, 0, 6, 0, 1)", BAD, x -> x.shift(0, 0, 6, 0, 1));
        refused("shift(0, 0, 5, 0, 1)", NOTHING_THERE, x -> x.shift(0, 0, 5, 0, 1));
        refused("shift(0, 0, 1, 0, 1)", OTHER_KIND, x -> x.shift(0, 0, 1, 0, 1));
        refused("shift(4, 0, 4, 0, 1)", OTHER_KIND, x -> x.shift(4, 0, 4, 0, 1));
        refused("shift(0, 0, 0, 1, 7)", NO_PLACE, x -> x.shift(0, 0, 0, 1, 7));
        refused("shift(0, 1, 0, 0, 7)", NO_PLACE, x -> x.shift(0, 1, 0, 0, 7));
        refused("shift(0, 0, 0, 1, -1)", NO_PLACE, x -> x.shift(0, 0, 0, 1, -1));
        says(42, NOTHING);
        refused("taken(4, 7)", OTHER_KIND, x -> x.taken(4, 7));
        refused("taken(0, 0)", OTHER_KIND, x -> x.taken(0, 0));
        refused("taken(5, 0)", NOTHING_THERE, x -> x.taken(5, 0));
        refused("taken(4, 8)", BAD, x -> x.taken(4, 8));
        says(43, NOTHING);
        refused("count(6)", BAD, x -> x.count(6));
    }

    private void whenFull() {
        says(2, "FULL (-3);");
        refused(full(), fullTold, "an eighth man", FULL, x -> x.man(0, 0));
        says(3, "FULL (-3);");
        refused(full(), fullTold, "a ninth sitter", FULL, x -> x.sitter(0, 0));
        says(7, "FULL (-3);");
        refused(full(), fullTold, "a 121st byte", FULL, x -> x.feed('1'));
        says(34, "FULL (-3);");
        refused(full(), fullTold, "a 51st body", FULL, x -> x.body(0));
        says(33, NOTHING);
        refused(full(), fullTold, "none to do again", STATE, x -> x.redo());
        says(31, NOTHING);
        refused(full(), fullTold, "no image", STATE, x -> x.back());
        says(26, NOTHING);
        refused(full(), fullTold, "over the edge", STATE, x -> x.steps(0, 3));
        says(22, NOTHING);
        refused(full(), fullTold, "never served", NOT, x -> x.late(7, 0));
    }

    private void whenNew() {
        says(32, NOTHING);
        refused(new HiredShade(), newTold, "none to undo", STATE, x -> x.undo());
        says(33, NOTHING);
        refused(new HiredShade(), newTold, "none to do again", STATE, x -> x.redo());
        says(31, NOTHING);
        refused(new HiredShade(), newTold, "no image", STATE, x -> x.back());
        says(25, "BAD (-1): no such number");
        refused(new HiredShade(), newTold, "no man steps", BAD, x -> x.steps(0, 0));
        refused(new HiredShade(), newTold, "no sitter goes", BAD, x -> x.goes(0, 0));
        refused(new HiredShade(), newTold, "no tree is kept", BAD, x -> x.keep(0, 0));
        says(8, NOTHING);
        refused(new HiredShade(), newTold, "an empty tape", -100, x -> x.law());
    }

    private void faultChangesTheTapeAlone() {
        says(8, "-100 less its FAULT; THE TAPE is empty then.");
        refused(some("s+", true), all(some("", true)), "a text that ends too early", -102, x -> x.law());
        refused(some("1)", true), all(some("", true)), "a text with a fault", -101, x -> x.law());
        refused(some("3;x", true), all(some("", true)), "a line that is good ahead of it", -102, x -> x.law());
    }

    private void noActChangesTheTraceAlone() {
        says(35, "no TRACE then: no such TREE, ACT.");
        refused(some(), all(some("s+", false)), "no such tree", 0, x -> x.act(8, 0, 1));
        refused(some(), all(some("s+", false)), "tree -1", 0, x -> x.act(-1, 0, 1));
        refused(some(), all(some("s+", false)), "no such act", 0, x -> x.act(0, 4, 1));
        refused(some(), all(some("s+", false)), "act -1", 0, x -> x.act(0, -1, 1));
    }

    /** Whatever a thought answers, all is behind it as it was. */
    private void thought(String call, Call made) {
        refused(some(), someTold, call, made.on(some()), made);
        refused(full(), fullTold, call, made.on(full()), made);
    }

    private void thoughtsChangeNothing() {
        says(9, "IN THOUGHT:");
        thought("shade", x -> x.shade(6300, -1));
        thought("walk", x -> x.walk(0, 1));
        thought("served", x -> x.served(2, 1));
        thought("at", x -> x.at(12, 0));
        for (int w = 0; w < 5; w++) {
            int what = w;
            thought("enough", x -> x.enough(what));
        }
        thought("roster", x -> x.roster(12));
        thought("oneMore", x -> x.oneMore(2, 0));
        thought("step", x -> x.step(0, 1));
        thought("judge", x -> x.judge(0, 0));
        for (int w = 0; w < 3; w++) {
            int what = w;
            thought("stood", x -> x.stood(0, 100, what));
            thought("who", x -> x.who(0, 0, what));
        }
        thought("wish", x -> x.wish(1, 1));
        thought("share", x -> x.share(0, 9999));
        thought("late", x -> x.late(0, 11));
        thought("byTurns", x -> x.byTurns(0, 4, 1));
        thought("drawn", x -> x.drawn(77, 3003, -1));
        thought("of", x -> x.of(0, 0));
        thought("led", x -> x.led(0));
        thought("trace", x -> x.trace(0));
        thought("element", x -> x.element(0, 0));
        thought("taken", x -> x.taken(4, 0));
        thought("count", x -> x.count(0));
    }

    private void ownMemory() {
        says(1, "All memory is the class's own.");
        HiredShade one = new HiredShade();
        HiredShade other = some();
        other.byTurns(0, 4, 1);
        other.drawn(1, 100, -1);
        due("one walk knows nothing of another", one.count(0), 0);
        List<Long> told = all(one);
        holds("it answers as a new one", told.equals(newTold));
        holds("and the other as it did", all(other).equals(someTold));
        long[] mine = {1, 2, 3};
        HiredShade x = new HiredShade();
        row(x, 0, LONGS, mine);
        Arrays.fill(mine, 9);
        due("a row is its own", x.element(0, 2), 3);
    }

    /** What later calls answer is free, but none may fail. */
    private void beyondTheLastCall() {
        says(1, "All memory is the class's own.");
        HiredShade x = some();
        for (int call = 0; call < 3000; call++) {
            x.mend(call % 3, call % 8, call % 13);
            x.passes();
            x.bird(call % 4);
            x.steps(call % 3, call % 4);
            x.feed(call % 256);
            x.body(call % 8);
            if (call % 7 == 0) {
                x.undo();
                x.redo();
                x.law();
                x.byTurns(call % 80, call % 130, 1);
            }
        }
        due("men", x.count(0), 3);
    }
}
