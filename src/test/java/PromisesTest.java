/** Each promise by itself: ordinary inputs, the edges that the document names, and wrong inputs. */
public final class PromisesTest {
    private static final int BAD = -1, NOT = -2, FULL = -3, STATE = -5;

    private static final Check CHECK = new Check();
    private static int promise;

    public static void main(String[] args) {
        newObject();
        manAndSitter();
        sittersFromRows();
        mendAndOf();
        tape();
        lawFaults();
        lawValues();
        lawKept();
        shadeOfOne();
        shadeOfAll();
        walk();
        served();
        enough();
        roster();
        oneMore();
        step();
        judge();
        stood();
        who();
        wish();
        share();
        late();
        byTurns();
        drawn();
        deeds();
        led();
        image();
        undoRedo();
        bodies();
        acts();
        shelves();
        rows();
        shift();
        taken();
        count();
        CHECK.end();
    }

    private static void due(String call, long got, long want) {
        CHECK.due("promise " + promise + ": " + call, got, want);
    }

    private static void feed(HiredShade x, String text) {
        for (int i = 0; i < text.length(); i++) {
            x.feed(text.charAt(i));
        }
    }

    private static int lawOf(HiredShade x, String text) {
        feed(x, text);
        return x.law();
    }

    /** A row of a sort with these elements. */
    private static void rowOf(HiredShade x, int shelf, int sort, long... v) {
        x.row(shelf, sort, v.length);
        for (int i = 0; i < v.length; i++) {
            x.put(shelf, i, v[i]);
        }
    }

    private static void newObject() {
        promise = 1;
        HiredShade x = new HiredShade();
        for (int what = 0; what < 6; what++) {
            due("count", x.count(what), 0);
            due("led", x.led(what), 0);
        }
        due("breeze", x.of(0, 7), 0);
        due("undo", x.undo(), STATE);
        due("redo", x.redo(), STATE);
        due("back", x.back(), STATE);
        due("trace", x.trace(0), BAD);
        for (int shelf = 0; shelf < 6; shelf++) {
            due("taken", x.taken(shelf, 0), -11);
        }
        due("shade", x.shade(6500, -1), 0);
        due("VOID", HiredShade.VOID, -2000000000);
        HiredShade other = new HiredShade();
        other.man(1, 1);
        due("another object's men", x.count(0), 0);
    }

    private static void manAndSitter() {
        HiredShade x = new HiredShade();
        promise = 2;
        for (int i = 0; i < 7; i++) {
            due("man", x.man(i == 6 ? 143 : i, i % 3), i);
        }
        due("an eighth man", x.man(0, 0), FULL);
        due("BAD comes ahead of FULL", x.man(144, 0), BAD);
        due("cell -1", x.man(-1, 0), BAD);
        due("kind 3", x.man(0, 3), BAD);
        due("kind -1", x.man(0, -1), BAD);
        due("men", x.count(0), 7);
        due("cell", x.of(6, 0), 143);
        due("kind", x.of(5, 1), 2);
        due("arms", x.of(5, 2), 1);
        due("pay", x.of(5, 3), 10);
        promise = 3;
        for (int i = 0; i < 8; i++) {
            due("sitter", x.sitter(i == 7 ? 143 : i, i == 7 ? 4095 : i), i);
        }
        due("a ninth sitter", x.sitter(0, 0), FULL);
        due("BAD comes ahead of FULL", x.sitter(0, 4096), BAD);
        due("wants -1", x.sitter(0, -1), BAD);
        due("cell 144", x.sitter(144, 0), BAD);
        due("cell -1", x.sitter(-1, 0), BAD);
        due("sitters", x.count(1), 8);
        due("cell", x.of(7, 4), 143);
        due("wants", x.of(7, 5), 4095);
        due("least", x.of(7, 6), 6);
    }

    private static void sittersFromRows() {
        promise = 4;
        HiredShade x = new HiredShade();
        due("a shelf that holds nothing is missing", x.sitters(0, 0, 1), 0);
        rowOf(x, 0, 1, 99, 5, 15, 12, 143, 4095, 1, 7, 7);
        due("it ends within a three", x.sitters(0, 1, 8), 2);
        due("sitters", x.count(1), 2);
        due("cell", x.of(0, 4), 5);
        due("wants", x.of(0, 5), 15);
        due("least", x.of(0, 6), 12);
        due("cell", x.of(1, 4), 143);
        due("wants", x.of(1, 5), 4095);
        due("least", x.of(1, 6), 1);
        due("n of them", x.sitters(0, 1, 1), 1);
        due("behind the end", x.sitters(0, 9, 1), 0);
        due("far behind the end", x.sitters(0, Integer.MAX_VALUE, 8), 0);
        HiredShade exact = new HiredShade();
        rowOf(exact, 0, 1, 1, 2, 3, 4, 5, 6);
        due("the row ends with a three", exact.sitters(0, 0, 3), 2);
        due("the last place of a three lacks", exact.sitters(0, 4, 1), 0);
        due("two places of a three lack", exact.sitters(0, 5, 1), 0);
        due("a place ahead of the row is not there", exact.sitters(0, -1, 1), 0);
        due("sitters", exact.count(1), 2);
        due("n 0", x.sitters(0, 0, 0), BAD);
        due("n 9", x.sitters(0, 0, 9), BAD);
        due("shelf 6", x.sitters(6, 0, 1), BAD);
        due("shelf -1", x.sitters(-1, 0, 1), BAD);
        long[][] wrongOnes = {{144, 0, 1}, {-1, 0, 1}, {0, 4096, 1}, {0, -1, 1}, {0, 0, 0}, {0, 0, 13}};
        for (long[] w : wrongOnes) {
            rowOf(x, 1, 1, w);
            due("one is not so", x.sitters(1, 0, 1), 0);
        }
        rowOf(x, 1, 1, 1, 1, 1, 144, 1, 1, 2, 2, 2);
        due("those ahead of one that is not so", x.sitters(1, 0, 3), 1);
        rowOf(x, 2, 1, 1, 1, 1, 2, 2, 2, 3, 3, 3, 4, 4, 4, 5, 5, 5);
        due("until they are full", x.sitters(2, 0, 5), 4);
        due("sitters", x.count(1), 8);
        due("full", x.sitters(2, 0, 5), 0);
        rowOf(x, 3, 2, 1, 1, 1);
        due("a row of ints", x.sitters(3, 0, 1), -12);
        x.body(0);
        x.keep(4, 0);
        due("a tree", x.sitters(4, 0, 1), -12);
        due("BAD comes ahead of -12", x.sitters(4, 0, 9), BAD);
    }

    private static void mendAndOf() {
        HiredShade x = new HiredShade();
        x.man(1, 0);
        x.sitter(2, 3);
        int[] low = {0, 0, 0, 0, 0, 0, 1, 0};
        int[] high = {143, 2, 4, 99, 143, 4095, 12, 9};
        int[] first = {1, 0, 1, 10, 2, 3, 6, 0};
        for (int what = 0; what < 8; what++) {
            promise = 6;
            due("of what " + what, x.of(0, what), first[what]);
            due("number 1", x.of(1, what), BAD);
            due("number -1", x.of(-1, what), BAD);
            promise = 5;
            due("above", x.mend(0, what, high[what] + 1), BAD);
            due("below", x.mend(0, what, low[what] - 1), BAD);
            due("number 1", x.mend(1, what, high[what]), BAD);
            due("number -1", x.mend(-1, what, high[what]), BAD);
            due("what it was", x.mend(0, what, high[what]), first[what]);
            due("what it became", x.of(0, what), high[what]);
            due("lowest", x.mend(0, what, low[what]), high[what]);
            due("what it became", x.of(0, what), low[what]);
        }
        due("what 8", x.mend(0, 8, 0), BAD);
        due("what -1", x.mend(0, -1, 0), BAD);
        promise = 6;
        due("what 8", x.of(0, 8), BAD);
        due("what -1", x.of(0, -1), BAD);
        HiredShade empty = new HiredShade();
        due("no men", empty.of(0, 0), BAD);
        due("no sitters", empty.of(0, 4), BAD);
    }

    private static void tape() {
        promise = 7;
        HiredShade x = new HiredShade();
        due("letter -1", x.feed(-1), BAD);
        due("letter 256", x.feed(256), BAD);
        for (int i = 1; i <= 120; i++) {
            due("feed", x.feed(i % 2 == 1 ? '1' : '+'), i);
        }
        due("a 121st", x.feed('1'), FULL);
        due("BAD comes ahead of FULL", x.feed(256), BAD);
        due("bytes", x.count(2), 120);
        promise = 8;
        due("it ends too early", x.law(), -220);
        due("bytes", x.count(2), 0);
        due("feed 0", x.feed(0), 1);
        due("feed 255", x.feed(255), 2);
        due("law", x.law(), -100);
        feed(x, "1+1+1+1+1+1+1+1+1+1+1+1+1+1+1+1+1+1+1+1+1+1+1+1+1+1+1+1+1+1");
        feed(x, "+1+1+1+1+1+1+1+1+1+1+1+1+1+1+1+1+1+1+1+1+1+1+1+1+1+1+1+1+-10");
        due("bytes", x.count(2), 119);
        due("law of 119 bytes", x.law(), 1);
        x.man(65, 0);
        for (int i = 0; i < 59; i++) {
            feed(x, i % 2 == 0 ? "0?" : "9;");
        }
        feed(x, "07");
        due("bytes", x.count(2), 120);
        due("law of 120 bytes", x.law(), 1);
        due("no line counts", x.shade(6400, 0), 0);
        for (int i = 0; i < 29; i++) {
            feed(x, "0?9;");
        }
        feed(x, "0005");
        due("bytes", x.count(2), 120);
        due("law of 120 bytes", x.law(), 1);
        due("the last line counts", x.shade(6400, 0), 5);
        feed(x, "0+0+0+0+0+0+0+0+0+0+0+0+0+0+0+0+0+0+0+0+0+0+0+0+0+0+0+0+0+0");
        feed(x, "+0+0+0+0+0+0+0+0+0+0+0+0+0+0+0+0+0+0+0+0+0+0+0+0+0+0+0+0+0+7");
        due("law of 119 bytes", x.law(), 1);
        due("its last word counts", x.shade(6400, 0), 7);
    }

    private static void lawFaults() {
        promise = 8;
        String[] texts = {"", "k", "k+", "+", "1234", "12345", "1?2?3", "1<2<3", "1<2=3", "1;", ";1", "1;;2", "1?", "?1",
            "(1;2)", "(1?2)", "(1", "(1))", "1)", "()", "1 2", "x", "1k", "k1", "kk", "1!2", "!", "-", "1--1", "1+-!1",
            "((((((1))))))", "(((((((1)))))))", "!!!!!!1", "!!!!!!!1", "------1", "-------1", "(!-(!-1))", "(!-(!-(1)))",
            "((((((1)+(2)))))", "((((((1))))))+((((((2))))))", "1|", "1&&2", "1||2", "1==2", "1**2", "0001", "k?s;a?b;h?m",
            "1<2&3<4|5=6", "(1<2)<3", "\u0000", "1\u00ff", "1\u0000", "1?2\u0000", "1?2|3", "1?2&3|4",
            "1?((((((1))))))", "1?(((((((1)))))))"};
        int[] dues = {-100, 1, -102, -100, 1, -104, -103, -103, -103, -102, -100, -102, -102, -100,
            -102, -102, -102, -103, -101, -101, -101, -100, -101, -101, -101, -101, -101, -101, 1, 1,
            1, -106, 1, -106, 1, -106, 1, -106,
            -116, 1, -102, -102, -102, -102, -102, 1, 1,
            1, 1, -100, -101, -101, -103, 1, 1,
            1, -108};
        // "(!-(!-(1)))" opens a seventh at place 6; "((((((1)+(2)))))" ends one ) too early, at its length 16.
        HiredShade x = new HiredShade();
        for (int i = 0; i < texts.length; i++) {
            due("law of \"" + texts[i] + "\"", lawOf(x, texts[i]), dues[i]);
            due("bytes", x.count(2), 0);
        }
    }

    private static int valueOf(String text) {
        HiredShade x = new HiredShade();
        x.man(65, 0);
        due("law of " + text, lawOf(x, text), 1);
        return x.shade(6400, 0);
    }

    private static void lawValues() {
        promise = 8;
        String[] texts = {"7", "12", "13", "9999", "-1", "0", "7-2*3", "2*7%4", "1-2+8", "7/2", "-7/2+9", "-7%4+9", "7%-4",
            "5/0+4", "5%0+4", "!0*5", "!7+3", "!!7", "-!0+3", "!-0", "3|0", "0|0", "(3&4)*6", "3&0", "2&0|1", "1|0&0",
            "(2<3)*9", "(3<3)+4", "(4>3)*8", "(3>3)+4", "1+1=2", "(3=4)+2", "3>2+2", "0?9;5", "0?9", "0?9;0?8", "2?8;5",
            "-1?8;5", "5;6", "0?1;6;7", "8-3-2", "24/4/2", "9999*9999*30<0", "9999*9999*20<0", "0-0007+9",
            "(1+2)*3", "2*(1+(1|0))", "9999*9999*9999*9999*0+6", "3<5=0"};
        int[] dues = {7, 12, 12, 12, 0, 0, 1, 2, 7, 3, 6, 6, 3,
            4, 4, 5, 3, 1, 2, 1, 1, 0, 6, 0, 1, 1,
            9, 4, 8, 4, 1, 2, 0, 5, 0, 0, 8,
            8, 5, 6, 3, 3, 1, 0, 2,
            9, 4, 6, 0};
        for (int i = 0; i < texts.length - 1; i++) {
            due("value of " + texts[i], valueOf(texts[i]), dues[i]);
        }
        due("B compares once", lawOf(new HiredShade(), texts[texts.length - 1]), -103);
        names();
    }

    private static void names() {
        HiredShade x = new HiredShade();
        x.man(0, 0);
        x.man(65, 2);
        x.mend(1, 2, 3);
        x.mend(0, 7, 4);
        String[] names = {"k", "s", "a", "b", "h", "m"};
        // Cell 43 has X 7, Y 3: 2 steps to the right of the man, 2 across.
        int[] dues = {2, 2, 2, 4, 10, 1};
        for (int i = 0; i < names.length; i++) {
            lawOf(x, names[i]);
            due("name " + names[i], x.shade(4310, 1), dues[i]);
        }
        lawOf(x, "s*2+a");
        due("3 steps up, 1 to the right", x.shade(3007, 1), 7);
        due("3 steps up, 1 to the left", x.shade(2807, 1), 7);
        due("4 steps up: too far", x.shade(1707, 1), 0);
    }

    private static void lawKept() {
        promise = 8;
        HiredShade x = new HiredShade();
        x.man(65, 0);
        due("a fault ahead of any law", lawOf(x, "1+"), -102);
        due("shade without a text", x.shade(6400, 0), 5);
        due("law", lawOf(x, "s+8"), 1);
        due("shade by it", x.shade(6400, 0), 9);
        due("a fault", lawOf(x, "2;3;"), -104);
        due("the law is as it was", x.shade(6400, 0), 9);
        due("an empty tape", x.law(), -100);
        due("the law is as it was", x.shade(6400, 0), 9);
        due("another law", lawOf(x, "3"), 1);
        due("shade by it", x.shade(6400, 0), 3);
    }

    private static void shadeOfOne() {
        promise = 9;
        HiredShade x = new HiredShade();
        x.man(65, 0);
        x.man(65, 2);
        int[] longs = {4, 3, 2, 1, 1, 1, 2, 2, 1, 2, 3, 4};
        for (int h = 0; h < 12; h++) {
            int step = h < 4 ? -1 : h < 8 ? -12 : 1;
            int side = h >= 4 && h < 8 ? 1 : 12;
            for (int s = 0; s <= 6; s++) {
                for (int a = 0; a <= 2; a++) {
                    boolean birch = s >= 1 && s <= longs[h] && a < 2;
                    boolean oak = s >= 1 && s <= longs[h] + 1 && a < 2;
                    if (s == 6 && (h < 4 || h >= 4 && h < 8)) {
                        continue;
                    }
                    for (int way = -1; way <= 1; way += 2) {
                        int ch = 100 * (65 + s * step + way * a * side) + h;
                        due("birch " + ch, x.shade(ch, 0), birch ? 6 - s - a : 0);
                        due("oak " + ch, x.shade(ch, 1), oak ? 10 - s - a : 0);
                    }
                }
            }
        }
        due("behind him", x.shade(6600, 0), 0);
        HiredShade edge = new HiredShade();
        edge.man(11, 2);
        edge.mend(0, 2, 4);
        due("no shade goes round the edge", edge.walk(11, 0), 0);
        due("nor at the top", edge.walk(4, 0), 0);
        due("arms end at the edge", edge.walk(3, 0), 10);
        due("arms", edge.shade(5803, 0), 10 - 1 - 4);
        edge.mend(0, 2, 0);
        due("no arms", edge.walk(3, 0), 2);
    }

    private static void shadeOfAll() {
        promise = 9;
        HiredShade x = new HiredShade();
        due("nobody", x.shade(0, -1), 0);
        x.man(65, 0);
        x.man(66, 1);
        due("by both", x.shade(6400, -1), 5 + 6);
        x.man(65, 2);
        due("12 at most", x.shade(6400, -1), 12);
        due("by one", x.shade(6400, 2), 9);
        x.mend(0, 7, 9);
        due("held at 0", x.shade(6400, 0), 0);
        due("breeze", x.shade(6400, -1), 0);
        x.mend(0, 7, 3);
        due("breeze", x.shade(6400, -1), 2 + 3 + 6);
        due("cell 144", x.shade(14400, -1), BAD);
        due("hour 12", x.shade(12, -1), BAD);
        due("hour 99", x.shade(99, -1), BAD);
        due("-1", x.shade(-1, -1), BAD);
        due("-100", x.shade(-100, -1), BAD);
        due("man 3", x.shade(0, 3), BAD);
        due("man -2", x.shade(0, -2), BAD);
        due("last cell and hour", x.shade(14311, -1), 0);
    }

    private static void walk() {
        promise = 10;
        HiredShade x = new HiredShade();
        due("nobody", x.walk(0, 0), 0);
        due("nobody", x.walk(0, 1), 0);
        x.man(65, 0);
        due("cells", x.walk(0, 0), 12);
        due("darkest", x.walk(0, 1), 64);
        due("cells at 4", x.walk(4, 0), 3);
        due("darkest at 4", x.walk(4, 1), 53);
        x.mend(0, 7, 4);
        due("those that have any", x.walk(0, 0), 1);
        x.mend(0, 7, 0);
        x.man(102, 0);
        due("of like ones the least", x.walk(8, 1), 66);
        lawOf(x, "99");
        due("of like ones the least, by 12 at most", x.walk(0, 1), 49);
        due("hour 12", x.walk(12, 0), BAD);
        due("hour -1", x.walk(-1, 0), BAD);
        due("what 2", x.walk(0, 2), BAD);
        due("what -1", x.walk(0, -1), BAD);
        HiredShade deep = new HiredShade();
        deep.man(66, 2);
        deep.man(66, 2);
        deep.man(66, 2);
        // 12 is reached from 4 a man on, up to the third step of the fifth: like ones, the least is farthest to the left.
        due("more than 12 is not darker", deep.walk(0, 1), 49);
    }

    private static void served() {
        HiredShade x = new HiredShade();
        x.man(65, 0);
        x.sitter(64, 0b1001);
        x.sitter(62, 0b0011);
        promise = 11;
        due("least 6 is not had", x.served(0, 0), 0);
        due("misses", x.served(0, 1), 2);
        x.mend(0, 6, 5);
        due("just as much as he must have", x.served(0, 0), 0b1111);
        due("misses", x.served(0, 1), 0);
        x.mend(1, 6, 3);
        due("hours", x.served(1, 0), 0b0011);
        x.mend(1, 5, 0b1110);
        due("misses", x.served(1, 1), 2);
        due("sitter 2", x.served(2, 0), BAD);
        due("sitter -1", x.served(-1, 0), BAD);
        due("what 2", x.served(0, 2), BAD);
        due("what -1", x.served(0, -1), BAD);
        promise = 12;
        due("served at 0", x.at(0, 0), 0b11);
        due("served at 2", x.at(2, 0), 0b01);
        due("served at 4", x.at(4, 0), 0);
        due("missing at 2", x.at(2, 1), 0b10);
        due("missing at 4", x.at(4, 1), 0);
        due("missing at 0", x.at(0, 1), 0);
        due("misses of all", x.at(12, 0), 2);
        x.mend(0, 7, 9);
        due("misses of all, as it is now", x.at(12, 0), 2 + 3);
        x.mend(0, 7, 0);
        x.mend(0, 5, 4095);
        due("misses of all", x.at(12, 0), 2 + 8);
        due("hour 12, what 1", x.at(12, 1), BAD);
        due("hour 13", x.at(13, 0), BAD);
        due("hour -1", x.at(-1, 0), BAD);
        due("what 2", x.at(0, 2), BAD);
        due("what -1", x.at(0, -1), BAD);
        due("hour 12, what -1", x.at(12, -1), BAD);
    }

    /** Two men give 3 each to cell 64 at hour 0, a third 5; they cost 5, 5, 10. */
    private static HiredShade three() {
        HiredShade x = new HiredShade();
        x.man(67, 0);
        x.man(67, 0);
        x.man(65, 0);
        x.mend(0, 3, 5);
        x.mend(1, 3, 5);
        x.sitter(64, 1);
        x.mend(0, 6, 5);
        return x;
    }

    private static void enough() {
        promise = 13;
        HiredShade x = three();
        due("how many", x.enough(0), 1);
        due("who: a later set may be smaller", x.enough(1), 0b100);
        due("cheapest: fewest ahead of least bits", x.enough(2), 0b100);
        due("pay", x.enough(3), 10);
        due("needed", x.enough(4), 0);
        x.mend(2, 3, 11);
        due("cheapest", x.enough(2), 0b011);
        due("pay", x.enough(3), 10);
        x.mend(0, 6, 3);
        due("fewest, of like ones the least", x.enough(1), 0b001);
        due("cheapest, of like ones the least", x.enough(2), 0b001);
        x.mend(0, 3, 6);
        due("cheapest", x.enough(2), 0b010);
        x.mend(0, 6, 11);
        due("all", x.enough(0), 3);
        due("all", x.enough(1), 0b111);
        due("all", x.enough(2), 0b111);
        due("all", x.enough(3), 22);
        due("needed", x.enough(4), 0b111);
        x.mend(0, 6, 7);
        due("needed", x.enough(4), 0b100);
        x.mend(0, 6, 12);
        due("he misses by all, too", x.enough(0), 0);
        due("none is needed", x.enough(4), 0);
        x.mend(0, 6, 5);
        x.mend(0, 5, 2);
        due("what he wants counts: 5 at hour 1", x.enough(1), 0b100);
        x.mend(0, 5, 16);
        due("he wants another hour", x.enough(1), 0);
        due("what 5", x.enough(5), BAD);
        due("what -1", x.enough(-1), BAD);
        HiredShade empty = new HiredShade();
        for (int what = 0; what < 5; what++) {
            due("nobody", empty.enough(what), 0);
        }
    }

    private static void roster() {
        promise = 14;
        HiredShade x = three();
        due("of like ones the least", x.roster(0), 0b011);
        due("hour 1", x.roster(1), 0);
        due("pay", x.roster(12), 10);
        x.mend(0, 5, 0b111);
        due("at 1", x.roster(1), 0b011);
        due("at 2 the shade is too short for two", x.roster(2), 0b100);
        due("pay", x.roster(12), 30);
        x.mend(2, 3, 9);
        due("cheaper", x.roster(0), 0b100);
        due("pay", x.roster(12), 27);
        x.mend(0, 6, 12);
        due("he misses by all, too", x.roster(0), 0);
        due("pay", x.roster(12), 0);
        due("hour 13", x.roster(13), BAD);
        due("hour -1", x.roster(-1), BAD);
    }

    private static void oneMore() {
        promise = 15;
        HiredShade x = new HiredShade();
        due("nobody wants any", x.oneMore(0, 0), 0);
        due("none", x.oneMore(0, 1), 0);
        x.sitter(64, 1);
        x.mend(0, 6, 5);
        due("birch", x.oneMore(0, 0), 65);
        due("elm: arms reach one row up", x.oneMore(1, 0), 53);
        due("oak: no farther than that", x.oneMore(2, 0), 53);
        due("how many then", x.oneMore(0, 1), 0);
        x.mend(0, 6, 12);
        due("none helps: the least", x.oneMore(2, 0), 0);
        due("how many then", x.oneMore(2, 1), 1);
        x.man(66, 0);
        x.mend(0, 6, 9);
        due("with one who stands there", x.oneMore(0, 0), 65);
        due("how many then", x.oneMore(0, 1), 0);
        lawOf(x, "m=1?7;2");
        due("he is man 1", x.oneMore(0, 0), 53);
        due("men are as they were", x.count(0), 1);
        for (int i = 0; i < 6; i++) {
            x.man(143, 0);
        }
        due("beside seven men he is man 7", lawOf(x, "m=7?9;0"), 1);
        due("beside seven men", x.oneMore(0, 0), 53);
        due("beside seven men", x.oneMore(0, 1), 0);
        due("kind 3", x.oneMore(3, 0), BAD);
        due("kind -1", x.oneMore(-1, 0), BAD);
        due("what 2", x.oneMore(0, 2), BAD);
        due("what -1", x.oneMore(0, -1), BAD);
    }

    private static void step() {
        promise = 16;
        HiredShade x = new HiredShade();
        x.man(66, 0);
        due("none first", x.step(0, 0), 4);
        x.sitter(64, 1);
        x.mend(0, 6, 5);
        due("left", x.step(0, 0), 3);
        due("how many then", x.step(0, 1), 0);
        x.mend(0, 0, 53);
        due("down", x.step(0, 0), 2);
        x.mend(0, 0, 77);
        due("up", x.step(0, 0), 0);
        x.mend(0, 0, 64);
        due("right", x.step(0, 0), 1);
        x.mend(0, 0, 65);
        due("none", x.step(0, 0), 4);
        x.mend(0, 0, 67);
        due("none helps", x.step(0, 0), 4);
        due("how many then", x.step(0, 1), 1);
        x.mend(0, 6, 3);
        x.mend(0, 0, 41);
        x.mend(0, 5, 3);
        due("down, for both hours", x.step(0, 0), 2);
        due("how many then", x.step(0, 1), 0);
        due("he stands where he stood", x.of(0, 0), 41);
        x.mend(0, 0, 0);
        due("over the edge he can't", x.step(0, 0), 4);
        HiredShade two = new HiredShade();
        two.man(53, 0);
        two.sitter(40, 1);
        two.sitter(64, 1);
        two.mend(0, 6, 5);
        two.mend(1, 6, 5);
        due("up or down: the least", two.step(0, 0), 0);
        due("one is helped", two.step(0, 1), 1);
        due("man 1", two.step(1, 0), BAD);
        due("man -1", two.step(-1, 0), BAD);
        due("what 2", two.step(0, 2), BAD);
        due("what -1", two.step(0, -1), BAD);
    }

    private static void refusals(String call, int nothing, int tree, int other, int wrongShelf) {
        due(call + " of nothing", nothing, -11);
        due(call + " of a tree", tree, -12);
        due(call + " of another sort", other, -12);
        due(call + " of shelf 6", wrongShelf, BAD);
    }

    /** Shelf 3 holds nothing, 4 a tree, 5 a row of ints. */
    private static void others(HiredShade x) {
        x.body(0);
        x.keep(4, 0);
        x.row(5, 2, 3);
    }

    private static void judge() {
        promise = 17;
        HiredShade x = new HiredShade();
        x.man(65, 0);
        others(x);
        refusals("judge", x.judge(3, 0), x.judge(4, 0), x.judge(5, 0), x.judge(6, 0));
        due("BAD comes ahead of -11", x.judge(3, 12), BAD);
        due("hour -1", x.judge(3, -1), BAD);
        x.row(0, 0, 0);
        due("an empty book", x.judge(0, 0), NOT);
        rowOf(x, 0, 0, 4, 5, 5, 3, 4, 3, 2, 5, 3);
        due("all is so", x.judge(0, 0), NOT);
        due("the first three at another hour", x.judge(0, 4), 0);
        x.put(0, 5, 4);
        due("the second three", x.judge(0, 0), 1);
        rowOf(x, 0, 0, 4, 5, 5, 3, 4, 3, 2, 5, 3, 1);
        due("one lacks", x.judge(0, 0), 3);
        rowOf(x, 0, 0, 4, 5, 5, 3, 4);
        due("one lacks", x.judge(0, 0), 1);
        long[][] none = {{12, 0, 0}, {-1, 0, 0}, {0, 12, 0}, {0, -1, 0}, {0, 0, 13}, {0, 0, -1}, {128, 0, 0}};
        for (long[] n : none) {
            rowOf(x, 0, 0, 4, 5, 5, n[0], n[1], n[2]);
            due("none such", x.judge(0, 0), 1);
        }
        x.man(65, 2);
        rowOf(x, 0, 0, 4, 5, 12);
        due("12 at most", x.judge(0, 0), NOT);
        x.row(0, 0, 60);
        due("20 threes of light", x.judge(0, 0), NOT);
        x.put(0, 59, 1);
        due("the last of 20", x.judge(0, 0), 19);
    }

    private static void stood() {
        promise = 18;
        HiredShade x = new HiredShade();
        due("no men", x.stood(0, 0, 0), BAD);
        x.man(65, 0);
        others(x);
        refusals("stood", x.stood(3, 0, 0), x.stood(4, 0, 0), x.stood(5, 0, 0), x.stood(6, 0, 0));
        due("man 1", x.stood(3, 100, 0), BAD);
        due("hour 12", x.stood(3, 12, 0), BAD);
        due("-1", x.stood(3, -1, 0), BAD);
        due("what 3", x.stood(3, 0, 3), BAD);
        due("what -1", x.stood(3, 0, -1), BAD);
        x.row(0, 0, 0);
        due("an empty book: anywhere", x.stood(0, 0, 0), 144);
        due("the least", x.stood(0, 0, 1), 0);
        due("of any kind", x.stood(0, 0, 2), 7);
        stoodBy(x, 5, 1, 65, 1);
        stoodBy(x, 4, 3, 53, 0);
        stoodBy(x, 0, 132, 0, 0);
        stoodBy(x, 9, 0, NOT, 4);
        stoodBy(x, 7, 0, NOT, 2);
        stoodBy(x, 6, 0, NOT, 0);
        rowOf(x, 0, 0, 4, 5, 4, 3);
        due("one lacks", x.stood(0, 0, 0), 0);
        due("one lacks", x.stood(0, 0, 1), NOT);
        due("one lacks", x.stood(0, 0, 2), 0);
        x.man(66, 0);
        stoodBy(x, 5 + 4, 1, 65, 1);
        rowOf(x, 0, 0, 4, 5, 9);
        due("the other one", x.stood(0, 100, 1), 53);
        due("he stands where he stood", x.of(1, 0), 66);
    }

    /** The book says how much shade cell 64 has at hour 0. */
    private static void stoodBy(HiredShade x, int much, int many, int least, int kinds) {
        rowOf(x, 0, 0, 4, 5, much);
        due("in how many cells, by " + much, x.stood(0, 0, 0), many);
        due("the least, by " + much, x.stood(0, 0, 1), least);
        due("kinds, by " + much, x.stood(0, 0, 2), kinds);
    }

    private static void who() {
        promise = 19;
        HiredShade x = new HiredShade();
        x.man(65, 0);
        x.man(66, 0);
        x.man(65, 0);
        others(x);
        refusals("who", x.who(3, 0, 0), x.who(4, 0, 0), x.who(5, 0, 0), x.who(6, 0, 0));
        due("hour 12", x.who(3, 12, 0), BAD);
        due("hour -1", x.who(3, -1, 0), BAD);
        due("what 3", x.who(3, 0, 3), BAD);
        due("what -1", x.who(3, 0, -1), BAD);
        x.row(0, 0, 0);
        due("an empty book: all sets", x.who(0, 0, 0), 8);
        due("the least", x.who(0, 0, 1), 0);
        due("certain", x.who(0, 0, 2), 0);
        whoBy(x, 5, 2, 0b001, 0);
        whoBy(x, 9, 2, 0b011, 0b010);
        whoBy(x, 12, 1, 0b111, 0b111);
        whoBy(x, 10, 1, 0b101, 0b101);
        whoBy(x, 0, 1, 0, 0);
        whoBy(x, 1, 0, NOT, 0);
        rowOf(x, 0, 0, 1, 5, 2);
        due("one who gives none may be there or not", x.who(0, 0, 0), 4);
        rowOf(x, 0, 0, 11, 11, 0);
        x.mend(0, 0, 143);
        due("certain is who is in all, and none is", x.who(0, 0, 2), 0);
        x.mend(0, 0, 65);
        HiredShade one = new HiredShade();
        one.man(65, 0);
        one.row(0, 0, 3);
        due("he may be there or not", one.who(0, 0, 0), 2);
        due("so he is not certain", one.who(0, 0, 2), 0);
        rowOf(x, 0, 0, 4, 5, 9, 3, 5, 7);
        due("two threes", x.who(0, 0, 0), 2);
        x.put(0, 5, 4);
        due("not both", x.who(0, 0, 0), 0);
        rowOf(x, 0, 0, 4, 5, 9, 3, 5);
        due("one lacks", x.who(0, 0, 0), 0);
    }

    private static void whoBy(HiredShade x, int much, int many, int least, int certain) {
        rowOf(x, 0, 0, 4, 5, much);
        due("how many sets, by " + much, x.who(0, 0, 0), many);
        due("the least, by " + much, x.who(0, 0, 1), least);
        due("certain, by " + much, x.who(0, 0, 2), certain);
    }

    private static void wish() {
        promise = 20;
        HiredShade x = new HiredShade();
        others(x);
        refusals("wish", x.wish(3, 0), x.wish(4, 0), x.wish(5, 0), x.wish(6, 0));
        x.row(0, 0, 2);
        due("a row of bytes", x.wish(0, 0), -12);
        due("what 2", x.wish(3, 2), BAD);
        due("what -1", x.wish(3, -1), BAD);
        x.row(0, 1, 0);
        due("the row has none", x.wish(0, 0), NOT);
        rowOf(x, 0, 1, 0b0111, 0b0011, 0b1011);
        due("in all", x.wish(0, 0), 0b0011);
        due("in none", x.wish(0, 1), 4095 - 0b1111);
        rowOf(x, 0, 1, 4095);
        due("in all", x.wish(0, 0), 4095);
        due("in none", x.wish(0, 1), 0);
        rowOf(x, 0, 1, 0);
        due("in all", x.wish(0, 0), 0);
        due("in none", x.wish(0, 1), 4095);
        rowOf(x, 0, 1, 7, 4096);
        due("one is not so", x.wish(0, 0), NOT);
        rowOf(x, 0, 1, -1, 7);
        due("one is not so", x.wish(0, 1), NOT);
    }

    private static void share() {
        promise = 21;
        HiredShade x = new HiredShade();
        x.man(65, 0);
        x.man(66, 0);
        due("no sitters", x.share(0, 100), 0);
        x.sitter(64, 0);
        x.sitter(63, 0);
        due("9 of 16, cut", x.share(0, 100), 56);
        due("7 of 16, cut", x.share(100, 100), 43);
        due("all of it", x.share(0, 9999), 5624);
        due("nothing", x.share(0, 0), 0);
        due("nobody gives any", x.share(8, 100), 0);
        x.man(65, 2);
        due("each by himself, over 12", x.share(200, 330), 330 * 17 / 33);
        due("hour 12", x.share(12, 0), BAD);
        due("man 3", x.share(300, 0), BAD);
        due("-1", x.share(-1, 0), BAD);
        due("v 10000", x.share(0, 10000), BAD);
        due("v -1", x.share(0, -1), BAD);
    }

    private static void late() {
        promise = 22;
        HiredShade x = new HiredShade();
        x.man(65, 0);
        x.sitter(64, 0);
        due("not served", x.late(0, 11), NOT);
        x.mend(0, 6, 5);
        due("the last hour", x.late(0, 11), 3);
        due("up to 2", x.late(0, 2), 2);
        due("up to 0", x.late(0, 0), 0);
        x.mend(0, 4, 66);
        due("up to 7", x.late(0, 7), NOT);
        due("up to 8", x.late(0, 8), 8);
        due("up to 11", x.late(0, 11), 11);
        due("hour 12", x.late(0, 12), BAD);
        due("hour -1", x.late(0, -1), BAD);
        due("sitter 1", x.late(1, 0), BAD);
        due("sitter -1", x.late(-1, 0), BAD);
    }

    private static void byTurns() {
        promise = 23;
        HiredShade x = new HiredShade();
        x.man(65, 0);
        x.sitter(64, 0);
        x.mend(0, 6, 5);
        turns(x, 1, 1, 4);
        turns(x, 2, 0, 4);
        x.mend(0, 0, 66);
        turns(x, 1, 1, 3);
        x.mend(0, 0, 53);
        turns(x, 1, 1, 2);
        // He has to be where the sitter's step can be answered: elm with short shade, the sitter beside him.
        HiredShade y = new HiredShade();
        y.man(78, 1);
        y.sitter(79, 0);
        due("three moves, by the elm's short shade", y.byTurns(0, 43, 0), 1);
        due("down first", y.byTurns(0, 43, 1), 2);
        due("two moves", y.byTurns(0, 42, 0), 0);
        HiredShade z = new HiredShade();
        z.man(68, 2);
        z.mend(0, 2, 4);
        z.sitter(65, 0);
        z.mend(0, 6, 4);
        turns(z, 2, 1, 4);
        turns(z, 4, 1, 4);
        z.man(65, 0);
        due("the other man", z.byTurns(10, 1, 0), 1);
        due("n 0", z.byTurns(0, 0, 0), BAD);
        due("n 5", z.byTurns(0, 5, 0), BAD);
        due("hour 12", z.byTurns(0, 121, 0), BAD);
        due("hn -1", z.byTurns(0, -1, 0), BAD);
        due("sitter 1", z.byTurns(1, 1, 0), BAD);
        due("man 2", z.byTurns(20, 1, 0), BAD);
        due("ms -1", z.byTurns(-1, 1, 0), BAD);
        due("what 2", z.byTurns(0, 1, 2), BAD);
        due("what -1", z.byTurns(0, 1, -1), BAD);
        due("he stands where he stood", z.of(0, 0), 68);
        due("the sitter, too", z.of(0, 4), 65);
        atTheEdge();
    }

    /** The edge of the walk is in the way of both. */
    private static void atTheEdge() {
        HiredShade x = new HiredShade();
        x.man(9, 2);
        x.sitter(11, 0);
        x.mend(0, 2, 1);
        due("he can only go left or down", x.byTurns(0, 82, 0), 1);
        x.mend(0, 2, 0);
        due("without arms: he goes down", x.byTurns(0, 82, 0), 0);
        x.mend(0, 2, 1);
        x.mend(0, 0, 132 + 9);
        x.mend(0, 4, 143);
        due("below he can't go", x.byTurns(0, 82, 0), 1);
        x.mend(0, 0, 132 + 2);
        x.mend(0, 4, 132);
        due("nor left of 0", x.byTurns(0, 12, 0), 1);
        due("none at first", x.byTurns(0, 12, 1), 4);
        x.mend(0, 0, 120 + 2);
        due("down, too", x.byTurns(0, 12, 0), 1);
        x.mend(0, 0, 96 + 2);
        due("the man is too far off", x.byTurns(0, 12, 0), 0);
        x.mend(0, 0, 108 + 2);
        due("down first", x.byTurns(0, 12, 1), 2);
        HiredShade rows = new HiredShade();
        rows.man(21, 2);
        rows.man(33, 2);
        rows.mend(0, 2, 0);
        rows.mend(1, 2, 0);
        rows.sitter(23, 0);
        due("he goes up into the top row", rows.byTurns(0, 82, 0), 0);
        rows.man(9, 2);
        due("it is shady, too", rows.byTurns(0, 82, 0), 1);
        due("served where he is", rows.byTurns(0, 81, 0), 1);
        rows.mend(0, 7, 9);
        due("as it is now", rows.byTurns(0, 81, 0), 0);
        HiredShade up = new HiredShade();
        up.man(12, 0);
        up.sitter(0, 0);
        up.mend(0, 6, 5);
        due("up first, into cell 0's row", up.byTurns(0, 81, 0), 0);
        up.mend(0, 4, 1);
        due("up first, into cell 0", up.byTurns(0, 81, 1), 0);
        due("whether", up.byTurns(0, 81, 0), 1);
        due("a step into cell 0", up.steps(0, 0), 0);
    }

    private static void turns(HiredShade x, int n, int whether, int first) {
        due("whether, by " + n, x.byTurns(0, n, 0), whether);
        due("first step, by " + n, x.byTurns(0, n, 1), first);
    }

    private static void drawn() {
        promise = 24;
        HiredShade x = new HiredShade();
        x.sitter(64, 4095);
        x.sitter(63, 1);
        due("no clouds, no men", x.drawn(1, 200, -1), 26);
        due("of one", x.drawn(1, 200, 0), 24);
        due("of the other", x.drawn(1, 200, 1), 2);
        due("clouds all day", x.drawn(1, 212, -1), 0);
        due("30 days", x.drawn(-9, 3000, -1), 390);
        x.man(65, 0);
        x.mend(0, 6, 5);
        due("one man is always away", x.drawn(7, 100, 0), 12);
        x.man(65, 0);
        due("one of two is away: the other serves him", x.drawn(7, 100, 0), 8);
        x.mend(1, 0, 0);
        int z = 7, misses = 0;
        for (int h = 0; h < 36; h++) {
            z = z * 1103515245 + 12345;
            boolean clouds = (z >>> 8) % 12 < 4;
            boolean firstIsAway = (z >>> 16) % 2 == 0;
            if (!clouds && (h % 12 > 3 || firstIsAway)) {
                misses++;
            }
        }
        due("by draws", x.drawn(7, 304, 0), misses);
        due("n 0", x.drawn(1, 0, -1), BAD);
        due("n 31", x.drawn(1, 3100, -1), BAD);
        due("clouds 13", x.drawn(1, 113, -1), BAD);
        due("nc -1", x.drawn(1, -1, -1), BAD);
        due("nc -100", x.drawn(1, -100, -1), BAD);
        due("sitter 2", x.drawn(1, 100, 2), BAD);
        due("sitter -2", x.drawn(1, 100, -2), BAD);
    }

    private static void deeds() {
        HiredShade x = new HiredShade();
        x.man(65, 0);
        x.sitter(64, 0b100000000001);
        x.sitter(64, 0b000000000010);
        x.mend(0, 6, 5);
        promise = 25;
        due("hour 0", x.passes(), 0);
        due("hour 1: the second misses it", x.passes(), 1);
        for (int h = 2; h < 11; h++) {
            due("hour " + h, x.passes(), 0);
        }
        due("hour 11: the first misses it", x.passes(), 1);
        due("the hour", x.led(5), 0);
        due("hours", x.led(0), 12);
        due("misses", x.led(4), 2);
        due("pay", x.led(3), 120);
        promise = 26;
        due("up", x.steps(0, 0), 53);
        due("right", x.steps(0, 1), 54);
        due("down", x.steps(0, 2), 66);
        due("left", x.steps(0, 3), 65);
        due("way 4", x.steps(0, 4), BAD);
        due("way -1", x.steps(0, -1), BAD);
        due("man 1", x.steps(1, 0), BAD);
        due("man -1", x.steps(-1, 0), BAD);
        due("steps", x.led(1), 4);
        int[] corners = {0, 11, 143, 132};
        int[] ways = {0, 1, 2, 3};
        for (int i = 0; i < 4; i++) {
            x.mend(0, 0, corners[i]);
            due("over the edge", x.steps(0, ways[i]), STATE);
            due("over the edge", x.steps(0, (ways[i] + 3) % 4), STATE);
            due("he is where he was", x.of(0, 0), corners[i]);
        }
        due("steps", x.led(1), 4);
        promise = 27;
        for (int arms = 2; arms <= 4; arms++) {
            due("bird", x.bird(0), arms);
        }
        due("4 at most", x.bird(0), 4);
        due("arms", x.of(0, 2), 4);
        due("birds", x.led(2), 4);
        due("man 1", x.bird(1), BAD);
        due("man -1", x.bird(-1), BAD);
        promise = 28;
        due("where he was", x.goes(0, 0), 64);
        due("where he was", x.goes(0, 143), 0);
        due("cell", x.of(0, 4), 143);
        due("cell 144", x.goes(0, 144), BAD);
        due("cell -1", x.goes(0, -1), BAD);
        due("sitter 2", x.goes(2, 0), BAD);
        due("sitter -1", x.goes(-1, 0), BAD);
    }

    private static void led() {
        promise = 29;
        HiredShade x = new HiredShade();
        x.man(65, 0);
        x.man(65, 0);
        x.mend(1, 3, 99);
        x.passes();
        x.mend(1, 3, 0);
        x.passes();
        x.passes();
        x.bird(0);
        x.bird(1);
        x.steps(0, 0);
        x.goes(0, 0);
        int[] dues = {3, 1, 2, 109 + 10 + 10, 0, 3};
        for (int what = 0; what < 6; what++) {
            due("what " + what, x.led(what), dues[what]);
        }
        due("what 6", x.led(6), BAD);
        due("what -1", x.led(-1), BAD);
    }

    private static void image() {
        promise = 30;
        HiredShade x = new HiredShade();
        x.man(65, 0);
        x.sitter(64, 4095);
        x.passes();
        x.steps(0, 0);
        due("image", x.image(), 1);
        promise = 31;
        x.passes();
        x.passes();
        x.steps(0, 0);
        x.bird(0);
        x.goes(0, 1);
        x.mend(0, 3, 7);
        x.mend(0, 1, 2);
        x.mend(0, 6, 2);
        x.mend(0, 5, 3);
        x.mend(0, 7, 1);
        x.man(3, 1);
        x.bird(1);
        x.sitter(4, 5);
        x.goes(1, 9);
        due("back", x.back(), 1);
        int[] led = {1, 1, 0, 10, 1, 1};
        for (int what = 0; what < 6; what++) {
            due("led " + what, x.led(what), led[what]);
        }
        int[] dues = {53, 2, 1, 7, 64, 3, 2, 1};
        for (int what = 0; what < 8; what++) {
            due("of " + what, x.of(0, what), dues[what]);
        }
        due("one who came since", x.of(1, 0), 3);
        due("his arms", x.of(1, 2), 2);
        due("a sitter who came since", x.of(1, 4), 9);
        due("changes are as they were", x.count(3), 5);
        x.passes();
        due("it is still kept", x.back(), 1);
        due("hours", x.led(0), 1);
        x.passes();
        due("another image", x.image(), 2);
        x.passes();
        due("back to it", x.back(), 2);
    }

    private static void undoRedo() {
        promise = 32;
        HiredShade x = new HiredShade();
        x.man(1, 0);
        due("one who came is no change", x.undo(), STATE);
        x.mend(0, 0, 5);
        x.mend(0, 3, 20);
        x.mend(0, 3, 20);
        due("the same number is none", x.count(3), 2);
        x.mend(0, 7, 4);
        due("undo", x.undo(), 2);
        due("breeze", x.of(0, 7), 0);
        due("undo", x.undo(), 1);
        due("pay", x.of(0, 3), 10);
        promise = 33;
        x.mend(0, 3, 10);
        due("the same number is none", x.redo(), 1);
        due("pay", x.of(0, 3), 20);
        due("redo", x.redo(), 0);
        due("breeze", x.of(0, 7), 4);
        due("none", x.redo(), STATE);
        x.undo();
        x.steps(0, 2);
        due("deeds are none", x.redo(), 0);
        x.undo();
        x.mend(0, 2, 3);
        due("another came behind", x.redo(), STATE);
        promise = 32;
        due("undo", x.undo(), 2);
        due("undo", x.undo(), 1);
        due("undo: the cell as it was ahead of the change", x.undo(), 0);
        due("cell", x.of(0, 0), 1);
        due("none", x.undo(), STATE);
        promise = 33;
        due("redo", x.redo(), 2);
        due("cell", x.of(0, 0), 5);
        forty();
    }

    private static void forty() {
        HiredShade x = new HiredShade();
        x.man(0, 0);
        for (int i = 1; i <= 42; i++) {
            x.mend(0, 0, i);
        }
        promise = 43;
        due("40 at most are kept", x.count(3), 40);
        promise = 32;
        for (int i = 39; i >= 0; i--) {
            due("undo", x.undo(), i);
            due("cell", x.of(0, 0), i + 2);
        }
        due("none", x.undo(), STATE);
        due("the oldest two are gone", x.of(0, 0), 2);
        promise = 33;
        for (int i = 39; i >= 0; i--) {
            due("redo", x.redo(), i);
            due("cell", x.of(0, 0), 42 - i);
        }
        due("the latest", x.of(0, 0), 42);
        due("none", x.redo(), STATE);
    }

    private static void bodies() {
        promise = 34;
        HiredShade x = new HiredShade();
        due("kind 8", x.body(8), BAD);
        due("kind -1", x.body(-1), BAD);
        for (int i = 0; i < 50; i++) {
            due("body", x.body(i % 8), i);
        }
        due("a 51st", x.body(0), FULL);
        due("BAD comes ahead of FULL", x.body(8), BAD);
        due("bodies", x.count(4), 50);
    }

    /** Runs an act of body n (2 times 8 bodies are kept: number n is of kind n % 8). */
    private static void act(int n, int act, int x, int want, int... bodies) {
        HiredShade s = new HiredShade();
        for (int i = 0; i < 16; i++) {
            s.body(i % 8);
        }
        promise = 35;
        String call = "act " + act + " of body " + n + " with " + x;
        due(call, s.act(n, act, x), want);
        promise = 43;
        due("how many ran, " + call, s.count(5), bodies.length);
        promise = 36;
        for (int i = 0; i < bodies.length; i++) {
            due("trace " + i + ", " + call, s.trace(i), bodies[i]);
        }
        due("behind the trace", s.trace(bodies.length), BAD);
        due("ahead of it", s.trace(-1), BAD);
        promise = 35;
        due("no such tree", s.act(16, 0, 5), 0);
        due("no trace then", s.trace(0), BAD);
        s.act(n, act, x);
        due("no such act", s.act(0, 4, 5), 0);
        due("no trace then", s.count(5), 0);
        due("tree -1", s.act(-1, 0, 5), 0);
        due("act -1", s.act(0, -1, 5), 0);
    }

    private static void acts() {
        act(8, 0, 5, 13, 1);
        act(8, 1, 5, 26, 10, 1);
        act(8, 2, 5, 13, 11);
        act(8, 3, 5, 26 - 9, 2, 10, 1, 11);
        act(9, 0, 5, 17, 20, 1);
        act(9, 1, 5, 34, 10, 20, 1);
        act(10, 1, 5, -30, 30, 10, 1);
        act(10, 3, 5, -30 - 11, 2, 30, 10, 1, 11);
        act(11, 1, 5, -34, 41, 30, 10, 1);
        act(11, 2, 5, (5 ^ 11) * 3, 40, 11);
        act(11, 3, 5, -34 - 30, 2, 41, 30, 10, 1, 40, 11);
        act(12, 2, 5, (5 ^ 12) - 17, 50, 11, 20, 1);
        act(13, 3, 5, (-(6 + 13) * 2 - 36) ^ 5, 60, 2, 41, 30, 10, 1, 40, 11);
        act(13, 0, 5, 18, 1);
        act(14, 0, 5, 38, 70, 1);
        act(14, 1, 5, 76, 10, 70, 1);
        act(15, 1, 5, 46 + (13 - 20), 80, 10, 20, 1, 50, 11, 20, 1);
        act(15, 3, 5, 39 - (14 - 20) - 1, 81, 2, 80, 10, 20, 1, 50, 11, 20, 1, 50, 11, 20, 1);
        act(8, 0, Integer.MAX_VALUE, Integer.MIN_VALUE + 7, 1);
        act(8, 1, 0x40000000, -2147483632, 10, 1);
    }

    private static void shelves() {
        promise = 37;
        HiredShade x = new HiredShade();
        x.body(5);
        due("a tree", x.keep(0, 0), 1);
        due("its kind", x.taken(0, 0), 5);
        due("nothing", x.keep(0, -1), 1);
        due("nothing is there", x.taken(0, 0), -11);
        due("body 1", x.keep(0, 1), BAD);
        due("body -2", x.keep(0, -2), BAD);
        due("shelf 6", x.keep(6, 0), BAD);
        due("shelf -1", x.keep(-1, 0), BAD);
        x.row(5, 0, 1);
        due("instead of a row", x.keep(5, 0), 1);
        due("a tree is there", x.put(5, 0, 1), -12);
        promise = 38;
        due("a row", x.row(0, 4, 60), 1);
        due("n 61", x.row(0, 0, 61), BAD);
        due("n -1", x.row(0, 0, -1), -14);
        due("BAD comes ahead of -14", x.row(0, 5, -1), BAD);
        due("sort 5", x.row(0, 5, 1), BAD);
        due("sort -1", x.row(0, -1, 1), BAD);
        due("shelf 6", x.row(6, 0, 1), BAD);
        due("shelf -1", x.row(-1, 0, 1), BAD);
        due("the row is as it was", x.put(0, 59, 1), 1);
        due("a new row", x.row(0, 3, 60), 1);
        for (int i = 0; i < 60; i++) {
            due("0 at first", x.element(0, i), 0);
        }
        due("instead of a tree", x.row(5, 0, 0), 1);
        due("a row is no tree", x.taken(5, 0), -12);
    }

    private static void rows() {
        HiredShade x = new HiredShade();
        long big = 0x1234567887654380L;
        long[] dues = {(byte) 0x80, 0x4380, 0x87654380 | 0xffffffff00000000L, big, 1};
        for (int sort = 0; sort < 5; sort++) {
            promise = 39;
            x.row(sort, sort, 3);
            due("put", x.put(sort, 2, big), 1);
            due("place 3", x.put(sort, 3, 1), -13);
            due("place -1", x.put(sort, -1, 1), -13);
            promise = 40;
            due("element of sort " + sort, x.element(sort, 2), dues[sort]);
            due("the others", x.element(sort, 1), 0);
            due("place 3", x.element(sort, 3), Long.MIN_VALUE);
            due("place -1", x.element(sort, -1), Long.MIN_VALUE);
            x.put(sort, 2, 256L << 32);
            due("lowest bits of sort " + sort, x.element(sort, 2), sort < 3 ? 0 : sort == 3 ? 256L << 32 : 1);
        }
        x.put(4, 2, 0);
        due("false", x.element(4, 2), 0);
        due("nothing is there", x.element(5, 0), Long.MIN_VALUE);
        due("shelf 6", x.element(6, 0), Long.MIN_VALUE);
        due("shelf -1", x.element(-1, 0), Long.MIN_VALUE);
        promise = 39;
        due("nothing is there", x.put(5, 99, 0), -11);
        due("shelf 6", x.put(6, 0, 0), BAD);
        due("shelf -1", x.put(-1, 0, 0), BAD);
        x.body(0);
        x.keep(5, 0);
        due("a tree", x.put(5, 99, 0), -12);
        promise = 40;
        due("a tree", x.element(5, 0), Long.MIN_VALUE);
    }

    private static void shift() {
        promise = 41;
        HiredShade x = new HiredShade();
        rowOf(x, 0, 2, 1, 2, 3, 4, 5);
        rowOf(x, 1, 2, 9, 9, 9);
        due("to another", x.shift(0, 1, 1, 0, 2), 2);
        elements(x, 1, 2, 3, 9);
        elements(x, 0, 1, 2, 3, 4, 5);
        due("to the same, onward", x.shift(0, 0, 0, 1, 4), 4);
        elements(x, 0, 1, 1, 2, 3, 4);
        due("to the same, backward", x.shift(0, 1, 0, 0, 4), 4);
        elements(x, 0, 1, 2, 3, 4, 4);
        due("none", x.shift(0, 5, 1, 3, 0), 0);
        due("from behind the end", x.shift(0, 6, 1, 0, 0), -13);
        due("to behind the end", x.shift(0, 0, 1, 4, 0), -13);
        due("too many of it", x.shift(0, 4, 1, 0, 2), -13);
        due("too many for it", x.shift(0, 0, 1, 2, 2), -13);
        due("from -1", x.shift(0, -1, 1, 0, 1), -13);
        due("to -1", x.shift(0, 0, 1, -1, 1), -13);
        due("n -1", x.shift(0, 0, 1, 0, -1), -13);
        due("far too many", x.shift(0, 1, 1, 1, Integer.MAX_VALUE), -13);
        due("from far behind", x.shift(0, Integer.MAX_VALUE, 1, 0, 1), -13);
        elements(x, 1, 2, 3, 9);
        due("from nothing", x.shift(5, 99, 0, 0, 1), -11);
        due("to nothing", x.shift(0, 99, 5, 0, 1), -11);
        x.body(0);
        x.keep(4, 0);
        due("a tree to nothing", x.shift(4, 0, 5, 0, 1), -11);
        due("nothing to a tree", x.shift(5, 0, 4, 0, 1), -11);
        due("from a tree", x.shift(4, 99, 0, 0, 1), -12);
        due("to a tree", x.shift(0, 99, 4, 0, 1), -12);
        due("from a tree to it", x.shift(4, 0, 4, 0, 0), -12);
        x.row(3, 3, 5);
        due("of unlike sorts", x.shift(0, 99, 3, 0, 1), -12);
        due("shelf 6", x.shift(6, 0, 0, 0, 1), BAD);
        due("other 6", x.shift(0, 0, 6, 0, 1), BAD);
        due("shelf -1", x.shift(-1, 0, 0, 0, 1), BAD);
        due("other -1", x.shift(5, 0, -1, 0, 1), BAD);
    }

    private static void elements(HiredShade x, int shelf, long... want) {
        for (int i = 0; i < want.length; i++) {
            due("element " + i, x.element(shelf, i), want[i]);
        }
    }

    private static void taken() {
        promise = 42;
        boolean[][] under = new boolean[8][8];
        int[] above = {-1, 0, 0, 2, 1, 3, 0, 4};
        for (int k = 0; k < 8; k++) {
            for (int top = k; top >= 0; top = above[top]) {
                under[k][top] = true;
            }
        }
        HiredShade x = new HiredShade();
        for (int k = 0; k < 8; k++) {
            x.body(k);
            x.keep(0, k);
            for (int top = 0; top < 8; top++) {
                due("kind " + k + " for " + top, x.taken(0, top), under[k][top] ? k : -12);
            }
        }
        due("k 8", x.taken(0, 8), BAD);
        due("k -1", x.taken(0, -1), BAD);
        due("shelf 6", x.taken(6, 0), BAD);
        due("shelf -1", x.taken(-1, 0), BAD);
        due("nothing", x.taken(1, 0), -11);
        due("BAD comes ahead of -11", x.taken(1, 8), BAD);
        x.row(1, 0, 1);
        due("a row", x.taken(1, 0), -12);
    }

    private static void count() {
        promise = 43;
        HiredShade x = new HiredShade();
        x.man(0, 0);
        x.man(0, 0);
        x.sitter(0, 0);
        feed(x, "abcd");
        x.mend(0, 3, 1);
        x.mend(0, 3, 2);
        x.mend(0, 3, 3);
        x.undo();
        for (int i = 0; i < 5; i++) {
            x.body(0);
        }
        x.act(0, 3, 1);
        int[] dues = {2, 1, 4, 2, 5, 4};
        for (int what = 0; what < 6; what++) {
            due("what " + what, x.count(what), dues[what]);
        }
        due("what 6", x.count(6), BAD);
        due("what -1", x.count(-1), BAD);
    }
}
