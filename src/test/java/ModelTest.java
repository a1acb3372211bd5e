import java.util.Random;

/** Runs of calls by fixed seeds: each answer of HiredShade is held against the plain model's. */
public final class ModelTest {
    private static final int RUNS = Integer.getInteger("runs", 400), CALLS = 512;

    private final Check check;
    private final int run;
    private final Random random;
    private final HiredShade shade = new HiredShade();
    private final Model model = new Model();

    private ModelTest(Check check, int run) {
        this.check = check;
        this.run = run;
        this.random = new Random(run);
    }

    public static void main(String[] args) {
        Check check = new Check();
        for (int run = 0; run < RUNS && check.wrong() < 30; run++) {
            new ModelTest(check, run).go();
        }
        check.end();
    }

    private int calls;

    private void go() {
        settle();
        while (calls < CALLS) {
            any();
        }
    }

    private void due(String name, long got, long want, long... args) {
        calls++;
        StringBuilder call = new StringBuilder("run " + run + ", call " + calls + ": " + name + "(");
        for (int i = 0; i < args.length; i++) {
            call.append(i == 0 ? "" : ", ").append(args[i]);
        }
        check.due(call.append(")").toString(), got, want);
    }

    // ---- what is asked for: mostly what is there, at times what is not

    private int upTo(int high) {
        int odd = random.nextInt(40);
        if (odd == 0) return -1;
        if (odd == 1) return high + 1;
        if (odd == 2 && random.nextInt(5) == 0) return random.nextBoolean() ? Integer.MIN_VALUE : Integer.MAX_VALUE;
        return random.nextInt(high + 1);
    }

    private int from(int low, int high) {
        return low + upTo(high - low);
    }

    private int cell() {
        return random.nextInt(3) == 0 ? upTo(143) : 12 * (3 + random.nextInt(6)) + 3 + random.nextInt(6);
    }

    private int someMan() {
        return upTo(Math.max(0, model.men.size() - 1));
    }

    private int someSitter() {
        return upTo(Math.max(0, model.sitters.size() - 1));
    }

    private int shelf() {
        return upTo(5);
    }

    private int wants() {
        return random.nextInt(4) == 0 ? 4095 : upTo(4095);
    }

    private void settle() {
        int men = random.nextInt(8);
        for (int i = 0; i < men; i++) {
            man();
        }
        int sitters = random.nextInt(9);
        for (int i = 0; i < sitters; i++) {
            sitter();
        }
        for (int i = random.nextInt(25); i > 0; i--) {
            mend();
        }
    }

    private void any() {
        switch (random.nextInt(42)) {
            case 0: man(); break;
            case 1: sitter(); break;
            case 2: sitters(); break;
            case 3: case 4: mend(); break;
            case 5: of(); break;
            case 6: law(); break;
            case 7: case 8: shade(); break;
            case 9: walk(); break;
            case 10: served(); break;
            case 11: at(); break;
            case 12: case 13: enough(); break;
            case 14: roster(); break;
            case 15: oneMore(); break;
            case 16: step(); break;
            case 17: case 18: case 19: book(); break;
            case 20: wish(); break;
            case 21: share(); break;
            case 22: late(); break;
            case 23: case 24: byTurns(); break;
            case 25: drawn(); break;
            case 26: case 27: deed(); break;
            case 28: case 29: case 30: record(); break;
            case 31: body(); break;
            case 32: act(); break;
            default: rows();
        }
        if (random.nextInt(8) == 0) {
            int what = upTo(5);
            due("count", shade.count(what), model.count(what), what);
        }
    }

    private void man() {
        int c = cell(), k = upTo(2);
        due("man", shade.man(c, k), model.man(c, k), c, k);
    }

    private void sitter() {
        int c = cell(), w = wants();
        due("sitter", shade.sitter(c, w), model.sitter(c, w), c, w);
    }

    private void sitters() {
        int s = shelf(), i = upTo(9), n = from(1, 8);
        if (random.nextInt(2) == 0 && s >= 0 && s < 6) {
            int size = random.nextInt(12);
            due("row", shade.row(s, 1, size), model.row(s, 1, size), s, 1, size);
            for (int at = 0; at < size; at++) {
                put(s, at, at % 3 == 0 ? cell() : at % 3 == 1 ? wants() : from(1, 12));
            }
            i = random.nextInt(3) == 0 ? i : 0;
        }
        due("sitters", shade.sitters(s, i, n), model.sitters(s, i, n), s, i, n);
    }

    private void mend() {
        int what = upTo(7);
        int number = what == 7 ? (random.nextInt(20) == 0 ? 1 : 0) : what < 4 ? someMan() : someSitter();
        int[] high = {143, 2, 4, 99, 143, 4095, 12, 9};
        int v = what == 0 || what == 4 ? cell() : what == 5 ? wants() : upTo(what < 0 || what > 7 ? 9 : high[what]);
        if (what == 7 && random.nextInt(2) == 0) {
            v = random.nextInt(3);
        }
        due("mend", shade.mend(number, what, v), model.mend(number, what, v), number, what, v);
    }

    private void of() {
        int what = upTo(7);
        int number = what == 7 ? (random.nextInt(9) == 0 ? 1 : 0) : random.nextInt(9) - 1;
        due("of", shade.of(number, what), model.of(number, what), number, what);
    }

    private void law() {
        String text = text();
        for (int i = 0; i < text.length() && calls < CALLS; i++) {
            int letter = text.charAt(i);
            due("feed", shade.feed(letter), model.feed(letter), letter);
        }
        if (random.nextInt(10) == 0) {
            int letter = random.nextBoolean() ? 256 : -1;
            due("feed", shade.feed(letter), model.feed(letter), letter);
        }
        due("law, text " + text, shade.law(), model.law());
    }

    private String text() {
        StringBuilder t = new StringBuilder(line());
        while (random.nextInt(3) == 0) {
            t.append(';').append(line());
        }
        if (random.nextInt(4) == 0) {
            spoil(t);
        }
        return t.length() > 125 ? t.substring(0, 125) : t.toString();
    }

    private String line() {
        return random.nextInt(2) == 0 ? level(0, 0) : level(0, 0) + "?" + level(0, 0);
    }

    private void spoil(StringBuilder t) {
        int at = random.nextInt(t.length());
        char letter = "ksabhm0123456789|&<=>+-*/%!()?;x \u00e9".charAt(random.nextInt(34));
        switch (random.nextInt(3)) {
            case 0: t.deleteCharAt(at); break;
            case 1: t.insert(at, letter); break;
            default: t.setCharAt(at, letter);
        }
    }

    private String level(int level, int deep) {
        if (level == 5) {
            return operand(deep);
        }
        String[] ops = {"|", "&", "<=>", "+-", "*/%"};
        StringBuilder t = new StringBuilder(level(level + 1, deep));
        for (int i = 0; i < (level == 2 ? 1 : 2) && random.nextInt(level < 3 ? 7 : 3) == 0; i++) {
            t.append(ops[level].charAt(random.nextInt(ops[level].length()))).append(level(level + 1, deep));
        }
        return t.toString();
    }

    private String operand(int deep) {
        int kind = random.nextInt(12);
        if (deep < 7 && kind == 0) return "(" + level(0, deep + 1) + ")";
        if (deep < 7 && kind == 1) return "!" + operand(deep + 1);
        if (deep < 7 && kind == 2) return "-" + operand(deep + 1);
        if (kind < 8) return String.valueOf("ksabhm".charAt(random.nextInt(6)));
        return String.valueOf(kind == 8 ? random.nextInt(12000) : random.nextInt(14));
    }

    private void shade() {
        int ch = 100 * cell() + upTo(11), m = random.nextInt(3) == 0 ? -1 : someMan();
        due("shade", shade.shade(ch, m), model.shade(ch, m), ch, m);
    }

    private void walk() {
        int h = upTo(11), what = upTo(1);
        due("walk", shade.walk(h, what), model.walk(h, what), h, what);
    }

    private void served() {
        int s = someSitter(), what = upTo(1);
        due("served", shade.served(s, what), model.served(s, what), s, what);
    }

    private void at() {
        int h = upTo(12), what = upTo(1);
        due("at", shade.at(h, what), model.at(h, what), h, what);
    }

    private void enough() {
        int what = upTo(4);
        due("enough", shade.enough(what), model.enough(what), what);
    }

    private void roster() {
        int h = upTo(12);
        due("roster", shade.roster(h), model.roster(h), h);
    }

    private void oneMore() {
        int k = upTo(2), what = upTo(1);
        due("oneMore", shade.oneMore(k, what), model.oneMore(k, what), k, what);
    }

    private void step() {
        int m = someMan(), what = upTo(1);
        due("step", shade.step(m, what), model.step(m, what), m, what);
    }

    /** Books tell of shade as it is, as it would be without some men, or of nothing that is so. */
    private void book() {
        int s = random.nextInt(6), h = upTo(11), m = someMan();
        if (random.nextInt(4) > 0) {
            writeBook(s, h, m);
        } else {
            s = shelf();
        }
        int mh = 100 * m + h;
        due("judge", shade.judge(s, h), model.judge(s, h), s, h);
        for (int what = 0; what < 3; what++) {
            due("stood", shade.stood(s, mh, what), model.stood(s, mh, what), s, mh, what);
            due("who", shade.who(s, h, what), model.who(s, h, what), s, h, what);
        }
        int what = random.nextBoolean() ? 3 : -1;
        due("stood", shade.stood(s, mh, what), model.stood(s, mh, what), s, mh, what);
        due("who", shade.who(s, h, what), model.who(s, h, what), s, h, what);
    }

    private void writeBook(int s, int h, int m) {
        int threes = random.nextInt(5), lacking = random.nextInt(12) == 0 ? 1 + random.nextInt(2) : 0;
        int size = 3 * threes + lacking, set = random.nextInt(128);
        boolean there = Model.in(h, 0, 11);
        due("row", shade.row(s, 0, size), model.row(s, 0, size), s, 0, size);
        for (int i = 0; i < threes; i++) {
            int c = 12 * (2 + random.nextInt(8)) + 2 + random.nextInt(8);
            if (Model.in(m, 0, model.men.size() - 1) && random.nextInt(2) == 0) {
                c = Math.floorMod(model.men.get(m).cell + random.nextInt(7) - 3, 144);
            }
            int much = there ? model.total(random.nextInt(3) == 0 ? model.set(set) : model.men, c, h) : 0;
            put(s, 3 * i, random.nextInt(30) == 0 ? 12 : c % 12);
            put(s, 3 * i + 1, random.nextInt(30) == 0 ? -1 : c / 12);
            put(s, 3 * i + 2, random.nextInt(12) == 0 ? upTo(12) : much);
        }
    }

    private void wish() {
        int s = shelf(), what = upTo(1);
        if (random.nextInt(2) == 0 && s >= 0 && s < 6) {
            int days = random.nextInt(4);
            due("row", shade.row(s, 1, days), model.row(s, 1, days), s, 1, days);
            for (int i = 0; i < days; i++) {
                put(s, i, upTo(4095));
            }
        }
        due("wish", shade.wish(s, what), model.wish(s, what), s, what);
    }

    private void share() {
        int mh = 100 * someMan() + upTo(11), v = upTo(9999);
        due("share", shade.share(mh, v), model.share(mh, v), mh, v);
    }

    private void late() {
        int s = someSitter(), h = upTo(11);
        due("late", shade.late(s, h), model.late(s, h), s, h);
    }

    private void byTurns() {
        int m = someMan(), s = someSitter(), ms = 10 * m + s, hn = 10 * upTo(11) + from(1, 4), what = upTo(1);
        if (Model.in(m, 0, model.men.size() - 1) && Model.in(s, 0, model.sitters.size() - 1)) {
            near(m, s, hn / 10);
        }
        due("byTurns", shade.byTurns(ms, hn, what), model.byTurns(ms, hn, what), ms, hn, what);
    }

    /** A sitter whom the man can reach, and at times the edge of the walk beside them. */
    private void near(int m, int s, int h) {
        int least = 1 + random.nextInt(7);
        due("mend", shade.mend(s, 6, least), model.mend(s, 6, least), s, 6, least);
        if (random.nextInt(3) == 0) {
            int along = random.nextInt(12), far = random.nextInt(2), side = random.nextInt(4);
            int c = side == 0 ? 12 * far + along : side == 1 ? 12 * along + 11 - far
                : side == 2 ? 12 * (11 - far) + along : 12 * along + far;
            if (random.nextInt(2) == 0) {
                c = new int[] {0, 1, 2, 11, 12, 13, 22, 23, 24, 120, 131, 132, 133, 142, 143}[random.nextInt(15)];
            }
            due("mend", shade.mend(m, 0, c), model.mend(m, 0, c), m, 0, c);
        }
        int ahead = 1 + random.nextInt(3), across = random.nextInt(3) - 1, c = model.men.get(m).cell;
        int x = c % 12 + (h < 4 ? -ahead : h < 8 ? across : ahead), y = c / 12 + (h >= 4 && h < 8 ? -ahead : across);
        int seat = 12 * Math.max(0, Math.min(11, y)) + Math.max(0, Math.min(11, x));
        due("goes", shade.goes(s, seat), model.goes(s, seat), s, seat);
    }

    private void drawn() {
        int seed = random.nextInt(), nc = 100 * from(1, random.nextInt(9) == 0 ? 30 : 4) + upTo(12);
        int s = random.nextInt(2) == 0 ? -1 : someSitter();
        due("drawn", shade.drawn(seed, nc, s), model.drawn(seed, nc, s), seed, nc, s);
    }

    private void deed() {
        int m = someMan(), s = someSitter(), way = upTo(3), c = cell(), what = upTo(5);
        switch (random.nextInt(5)) {
            case 0: due("passes", shade.passes(), model.passes()); break;
            case 1: due("steps", shade.steps(m, way), model.steps(m, way), m, way); break;
            case 2: due("bird", shade.bird(m), model.bird(m), m); break;
            case 3: due("goes", shade.goes(s, c), model.goes(s, c), s, c); break;
            default: due("led", shade.led(what), model.led(what), what);
        }
    }

    private void record() {
        switch (random.nextInt(8)) {
            case 0: due("image", shade.image(), model.image()); break;
            case 1: due("back", shade.back(), model.back()); break;
            case 2: case 3: case 4: due("undo", shade.undo(), model.undo()); break;
            default: due("redo", shade.redo(), model.redo());
        }
    }

    private void body() {
        int k = upTo(7);
        due("body", shade.body(k), model.body(k), k);
    }

    private void act() {
        int b = upTo(Math.max(0, model.bodies.size() - 1)), a = upTo(3);
        int x = random.nextBoolean() ? random.nextInt(20) : random.nextInt();
        due("act", shade.act(b, a, x), model.act(b, a, x), b, a, x);
        for (int i = 0; i < 4; i++) {
            int at = upTo(15);
            due("trace", shade.trace(at), model.trace(at), at);
        }
    }

    private void put(int s, int i, long v) {
        due("put", shade.put(s, i, v), model.put(s, i, v), s, i, v);
    }

    private void rows() {
        int s = shelf(), o = shelf(), i = upTo(8), j = upTo(8), n = upTo(8), k = upTo(7), sort = upTo(4);
        switch (random.nextInt(8)) {
            case 0: due("keep", shade.keep(s, j - 1), model.keep(s, j - 1), s, j - 1); break;
            case 1: due("row", shade.row(s, sort, n), model.row(s, sort, n), s, sort, n); break;
            case 2:
                int size = upTo(60);
                due("row", shade.row(s, sort, size), model.row(s, sort, size), s, sort, size);
                break;
            case 3: case 4: put(s, i, random.nextBoolean() ? random.nextLong() : random.nextInt(3)); break;
            case 5: due("shift", shade.shift(s, i, o, j, n), model.shift(s, i, o, j, n), s, i, o, j, n); break;
            case 6: due("taken", shade.taken(s, k), model.taken(s, k), s, k); break;
            default: due("element", shade.element(s, i), model.element(s, i), s, i);
        }
        due("element", shade.element(s, j), model.element(s, j), s, j);
    }
}
