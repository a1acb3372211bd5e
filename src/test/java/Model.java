import java.util.ArrayList;
import java.util.List;

/**
 * The document said over again as plainly as can be, slow and with the Java library:
 * what HiredShade answers is held against it. It shares no code and no shortcut with the class.
 */
final class Model {
    static final int BAD = -1, NOT = -2, FULL = -3, STATE = -5;

    static final class Man {
        int number, cell, kind, arms = 1, pay = 10;

        Man copy() {
            Man m = new Man();
            m.number = number;
            m.cell = cell;
            m.kind = kind;
            m.arms = arms;
            m.pay = pay;
            return m;
        }
    }

    static final class Sitter {
        int cell, wants, least = 6;
    }

    record Change(int number, int what, int was, int became) { }

    record Image(int[] cells, int[] arms, int[] seats, int[] led) { }

    final List<Man> men = new ArrayList<>();
    final List<Sitter> sitters = new ArrayList<>();
    int breeze;
    final StringBuilder tape = new StringBuilder();
    String text;
    final List<Change> done = new ArrayList<>();
    final List<Change> undone = new ArrayList<>();
    final int[] led = new int[6];
    Image image;
    final List<Integer> bodies = new ArrayList<>();
    List<Integer> trace = new ArrayList<>();
    /** null, an Integer (a tree's body), or an array. */
    final Object[] shelves = new Object[6];

    // ---- the law

    /** Reads and works out at once; pos is where no text goes on, if it fails. */
    static final class Reader {
        final String t;
        final int[] env;
        int pos;
        boolean bad;

        Reader(String t, int[] env) {
            this.t = t;
            this.env = env;
        }

        char now() {
            return pos < t.length() ? t.charAt(pos) : '\uffff';
        }

        boolean eat(char c) {
            if (!bad && now() == c) {
                pos++;
                return true;
            }
            return false;
        }

        int text() {
            boolean found = false;
            int answer = 0;
            do {
                int first = e(0);
                if (eat('?')) {
                    int second = e(0);
                    if (!found && first != 0) {
                        found = true;
                        answer = second;
                    }
                } else if (!found) {
                    found = true;
                    answer = first;
                }
            } while (!bad && eat(';'));
            if (!bad && pos != t.length()) {
                bad = true;
            }
            return answer;
        }

        int e(int d) {
            int v = a(d);
            while (eat('|')) {
                int w = a(d);
                v = (v != 0 | w != 0) ? 1 : 0;
            }
            return v;
        }

        int a(int d) {
            int v = b(d);
            while (eat('&')) {
                int w = b(d);
                v = (v != 0 & w != 0) ? 1 : 0;
            }
            return v;
        }

        int b(int d) {
            int v = s(d);
            if (eat('<')) {
                return v < s(d) ? 1 : 0;
            }
            if (eat('=')) {
                return v == s(d) ? 1 : 0;
            }
            if (eat('>')) {
                return v > s(d) ? 1 : 0;
            }
            return v;
        }

        int s(int d) {
            int v = p(d);
            while (true) {
                if (eat('+')) {
                    v += p(d);
                } else if (eat('-')) {
                    v -= p(d);
                } else {
                    return v;
                }
            }
        }

        int p(int d) {
            int v = o(d);
            while (true) {
                if (eat('*')) {
                    v *= o(d);
                } else if (eat('/')) {
                    int w = o(d);
                    v = w == 0 ? 0 : v / w;
                } else if (eat('%')) {
                    int w = o(d);
                    v = w == 0 ? 0 : v % w;
                } else {
                    return v;
                }
            }
        }

        int o(int d) {
            if (bad) {
                return 0;
            }
            int name = "ksabhm".indexOf(now());
            if (name >= 0) {
                pos++;
                return env[name];
            }
            if (now() >= '0' && now() <= '9') {
                int from = pos;
                while (pos < from + 4 && now() >= '0' && now() <= '9') {
                    pos++;
                }
                return Integer.parseInt(t.substring(from, pos));
            }
            if (d < 6 && eat('!')) {
                return o(d + 1) == 0 ? 1 : 0;
            }
            if (d < 6 && eat('-')) {
                return -o(d + 1);
            }
            if (d < 6 && eat('(')) {
                int v = e(d + 1);
                if (!eat(')')) {
                    bad = true;
                }
                return v;
            }
            bad = true;
            return 0;
        }
    }

    int feed(int letter) {
        if (letter < 0 || letter > 255) return BAD;
        if (tape.length() == 120) return FULL;
        tape.append((char) letter);
        return tape.length();
    }

    int law() {
        String t = tape.toString();
        tape.setLength(0);
        Reader r = new Reader(t, new int[6]);
        r.text();
        if (r.bad) return -100 - r.pos;
        text = t;
        return 1;
    }

    // ---- shade

    /** All cells of a man's shade are walked, step by step, until the one asked for is met. */
    int gives(Man man, int cell, int hour) {
        int[] longs = {4, 3, 2, 1, 1, 1, 2, 2, 1, 2, 3, 4};
        int far = longs[hour] + (man.kind == 2 ? 1 : 0);
        int dx = hour <= 3 ? -1 : hour >= 8 ? 1 : 0;
        int dy = dx == 0 ? -1 : 0;
        for (int s = 1; s <= far; s++) {
            for (int a = -man.arms; a <= man.arms; a++) {
                int x = man.cell % 12 + s * dx + a * (dx == 0 ? 1 : 0);
                int y = man.cell / 12 + s * dy + a * (dx == 0 ? 0 : 1);
                if (x >= 0 && x < 12 && y >= 0 && y < 12 && 12 * y + x == cell) {
                    return amount(man, s, Math.abs(a), hour);
                }
            }
        }
        return 0;
    }

    int amount(Man man, int s, int a, int hour) {
        int v;
        if (text == null) {
            v = 6 + 2 * man.kind - s - a - breeze;
        } else {
            v = new Reader(text, new int[] {man.kind, s, a, breeze, hour, man.number}).text();
        }
        return v < 0 ? 0 : v > 12 ? 12 : v;
    }

    int total(List<Man> some, int cell, int hour) {
        int v = 0;
        for (Man m : some) v += gives(m, cell, hour);
        return Math.min(12, v);
    }

    boolean isServed(List<Man> some, Sitter s, int hour) {
        return total(some, s.cell, hour) >= s.least;
    }

    int misses(List<Man> some, Sitter s) {
        int v = 0;
        for (int h = 0; h < 12; h++) {
            if ((s.wants >> h & 1) == 1 && !isServed(some, s, h)) v++;
        }
        return v;
    }

    int missesOfAll(List<Man> some) {
        int v = 0;
        for (Sitter s : sitters) v += misses(some, s);
        return v;
    }

    List<Man> set(int bits) {
        List<Man> some = new ArrayList<>();
        for (Man m : men) {
            if ((bits >> m.number & 1) == 1) some.add(m);
        }
        return some;
    }

    /** All men, but with this one instead of his number. */
    List<Man> with(Man other) {
        List<Man> some = new ArrayList<>();
        for (Man m : men) some.add(m.number == other.number ? other : m);
        if (other.number == men.size()) some.add(other);
        return some;
    }

    static boolean in(int v, int low, int high) {
        return v >= low && v <= high;
    }

    int man(int cell, int kind) {
        if (!in(cell, 0, 143) || !in(kind, 0, 2)) return BAD;
        if (men.size() == 7) return FULL;
        Man m = new Man();
        m.number = men.size();
        m.cell = cell;
        m.kind = kind;
        men.add(m);
        return m.number;
    }

    int sitter(int cell, int wants) {
        if (!in(cell, 0, 143) || !in(wants, 0, 4095)) return BAD;
        if (sitters.size() == 8) return FULL;
        Sitter s = new Sitter();
        s.cell = cell;
        s.wants = wants;
        sitters.add(s);
        return sitters.size() - 1;
    }

    int sitters(int shelf, int i, int n) {
        if (!in(shelf, 0, 5) || !in(n, 1, 8)) return BAD;
        if (shelves[shelf] == null) return 0;
        if (!(shelves[shelf] instanceof short[] row)) return -12;
        int came = 0;
        for (long at = i; came < n; at += 3) {
            if (at < 0 || at + 2 > row.length - 1 || sitters.size() == 8) break;
            int cell = row[(int) at], wants = row[(int) at + 1], least = row[(int) at + 2];
            if (!in(cell, 0, 143) || !in(wants, 0, 4095) || !in(least, 1, 12)) break;
            sitters.get(sitter(cell, wants)).least = least;
            came++;
        }
        return came;
    }

    boolean known(int number, int what) {
        if (what == 7) return number == 0;
        return in(what, 0, 6) && in(number, 0, (what < 4 ? men.size() : sitters.size()) - 1);
    }

    int of(int number, int what) {
        if (!known(number, what)) return BAD;
        switch (what) {
            case 0: return men.get(number).cell;
            case 1: return men.get(number).kind;
            case 2: return men.get(number).arms;
            case 3: return men.get(number).pay;
            case 4: return sitters.get(number).cell;
            case 5: return sitters.get(number).wants;
            case 6: return sitters.get(number).least;
            default: return breeze;
        }
    }

    void become(int number, int what, int v) {
        switch (what) {
            case 0: men.get(number).cell = v; break;
            case 1: men.get(number).kind = v; break;
            case 2: men.get(number).arms = v; break;
            case 3: men.get(number).pay = v; break;
            case 4: sitters.get(number).cell = v; break;
            case 5: sitters.get(number).wants = v; break;
            case 6: sitters.get(number).least = v; break;
            default: breeze = v;
        }
    }

    int mend(int number, int what, int v) {
        int[] high = {143, 2, 4, 99, 143, 4095, 12, 9};
        if (!known(number, what) || !in(v, what == 6 ? 1 : 0, high[what])) return BAD;
        int was = of(number, what);
        if (was != v) {
            undone.clear();
            done.add(new Change(number, what, was, v));
            if (done.size() > 40) done.remove(0);
            become(number, what, v);
        }
        return was;
    }

    int undo() {
        if (done.isEmpty()) return STATE;
        Change c = done.remove(done.size() - 1);
        undone.add(c);
        become(c.number(), c.what(), c.was());
        return done.size();
    }

    int redo() {
        if (undone.isEmpty()) return STATE;
        Change c = undone.remove(undone.size() - 1);
        done.add(c);
        become(c.number(), c.what(), c.became());
        return undone.size();
    }

    int shade(int ch, int man) {
        if (ch < 0 || ch / 100 > 143 || ch % 100 > 11 || !in(man, -1, men.size() - 1)) return BAD;
        return man == -1 ? total(men, ch / 100, ch % 100) : gives(men.get(man), ch / 100, ch % 100);
    }

    int walk(int hour, int what) {
        if (!in(hour, 0, 11) || !in(what, 0, 1)) return BAD;
        int any = 0, best = 0;
        for (int c = 0; c < 144; c++) {
            if (total(men, c, hour) > 0) any++;
            if (total(men, c, hour) > total(men, best, hour)) best = c;
        }
        return what == 0 ? any : best;
    }

    int served(int sitter, int what) {
        if (!in(sitter, 0, sitters.size() - 1) || !in(what, 0, 1)) return BAD;
        if (what == 1) return misses(men, sitters.get(sitter));
        int bits = 0;
        for (int h = 0; h < 12; h++) {
            if (isServed(men, sitters.get(sitter), h)) bits |= 1 << h;
        }
        return bits;
    }

    int at(int hour, int what) {
        if (hour == 12 && what == 0) return missesOfAll(men);
        if (!in(hour, 0, 11) || !in(what, 0, 1)) return BAD;
        int bits = 0;
        for (int i = 0; i < sitters.size(); i++) {
            Sitter s = sitters.get(i);
            boolean is = isServed(men, s, hour);
            if (what == 0 ? is : !is && (s.wants >> hour & 1) == 1) bits |= 1 << i;
        }
        return bits;
    }

    boolean noneMissesMore(int bits) {
        for (Sitter s : sitters) {
            if (misses(set(bits), s) > misses(men, s)) return false;
        }
        return true;
    }

    int pay(int bits) {
        int v = 0;
        for (Man m : set(bits)) v += m.pay;
        return v;
    }

    int enough(int what) {
        if (!in(what, 0, 4)) return BAD;
        int all = (1 << men.size()) - 1;
        int fewest = all, cheapest = all, needed = 0;
        for (int b = all; b >= 0; b--) {
            if (!noneMissesMore(b)) continue;
            if (Integer.bitCount(b) <= Integer.bitCount(fewest)) fewest = b;
            int worse = pay(b) != pay(cheapest) ? pay(b) - pay(cheapest)
                : Integer.bitCount(b) - Integer.bitCount(cheapest);
            if (worse <= 0) cheapest = b;
        }
        for (Man m : men) {
            if (!noneMissesMore(all - (1 << m.number))) needed |= 1 << m.number;
        }
        return new int[] {Integer.bitCount(fewest), fewest, cheapest, pay(cheapest), needed}[what];
    }

    int roster(int hour) {
        if (!in(hour, 0, 12)) return BAD;
        if (hour == 12) {
            int v = 0;
            for (int h = 0; h < 12; h++) v += pay(roster(h));
            return v;
        }
        int best = (1 << men.size()) - 1;
        for (int b = best; b >= 0; b--) {
            boolean good = true;
            for (Sitter s : sitters) {
                if ((s.wants >> hour & 1) == 1) good &= isServed(set(b), s, hour) == isServed(men, s, hour);
            }
            if (good && pay(b) <= pay(best)) best = b;
        }
        return best;
    }

    int oneMore(int kind, int what) {
        if (!in(kind, 0, 2) || !in(what, 0, 1)) return BAD;
        int best = -1, least = 1000;
        for (int c = 0; c < 144; c++) {
            Man m = new Man();
            m.number = men.size();
            m.kind = kind;
            m.cell = c;
            int v = missesOfAll(with(m));
            if (v < least) {
                least = v;
                best = c;
            }
        }
        return what == 0 ? best : least;
    }

    static int stepped(int cell, int way) {
        int x = cell % 12, y = cell / 12;
        if (way == 0) y--;
        if (way == 1) x++;
        if (way == 2) y++;
        if (way == 3) x--;
        return in(x, 0, 11) && in(y, 0, 11) ? 12 * y + x : -1;
    }

    int step(int man, int what) {
        if (!in(man, 0, men.size() - 1) || !in(what, 0, 1)) return BAD;
        int best = 4, least = missesOfAll(men);
        for (int way = 0; way < 4; way++) {
            Man m = men.get(man).copy();
            m.cell = stepped(m.cell, way);
            if (m.cell < 0) continue;
            int v = missesOfAll(with(m));
            if (v < least) {
                least = v;
                best = way;
            }
        }
        return what == 0 ? best : least;
    }

    // ---- books

    int refusal(int shelf, Class<?> wanted) {
        if (shelves[shelf] == null) return -11;
        return wanted.isInstance(shelves[shelf]) ? 0 : -12;
    }

    int firstWrong(byte[] book, List<Man> some, int hour) {
        for (int i = 0; i < book.length; i += 3) {
            if (i + 2 >= book.length) return i / 3;
            int x = book[i], y = book[i + 1];
            if (!in(x, 0, 11) || !in(y, 0, 11) || total(some, 12 * y + x, hour) != book[i + 2]) return i / 3;
        }
        return NOT;
    }

    int judge(int shelf, int hour) {
        if (!in(shelf, 0, 5) || !in(hour, 0, 11)) return BAD;
        int r = refusal(shelf, byte[].class);
        return r != 0 ? r : firstWrong((byte[]) shelves[shelf], men, hour);
    }

    int stood(int shelf, int mh, int what) {
        if (!in(shelf, 0, 5) || mh < 0 || mh / 100 >= men.size() || mh % 100 > 11 || !in(what, 0, 2)) return BAD;
        int r = refusal(shelf, byte[].class);
        if (r != 0) return r;
        byte[] book = (byte[]) shelves[shelf];
        List<Integer> cells = new ArrayList<>();
        for (int c = 0; c < 144; c++) {
            Man m = men.get(mh / 100).copy();
            m.cell = c;
            if (firstWrong(book, with(m), mh % 100) == NOT) cells.add(c);
        }
        int kinds = 0;
        for (int k = 0; k < 3; k++) {
            Man m = men.get(mh / 100).copy();
            m.kind = k;
            if (firstWrong(book, with(m), mh % 100) == NOT) kinds |= 1 << k;
        }
        if (what == 2) return kinds;
        return what == 0 ? cells.size() : cells.isEmpty() ? NOT : cells.get(0);
    }

    int who(int shelf, int hour, int what) {
        if (!in(shelf, 0, 5) || !in(hour, 0, 11) || !in(what, 0, 2)) return BAD;
        int r = refusal(shelf, byte[].class);
        if (r != 0) return r;
        List<Integer> sets = new ArrayList<>();
        for (int b = 0; b < 1 << men.size(); b++) {
            if (firstWrong((byte[]) shelves[shelf], set(b), hour) == NOT) sets.add(b);
        }
        if (what == 0) return sets.size();
        if (what == 1) return sets.isEmpty() ? NOT : sets.get(0);
        int certain = sets.isEmpty() ? 0 : -1;
        for (int b : sets) certain &= b;
        return certain;
    }

    int wish(int shelf, int what) {
        if (!in(shelf, 0, 5) || !in(what, 0, 1)) return BAD;
        int r = refusal(shelf, short[].class);
        if (r != 0) return r;
        short[] days = (short[]) shelves[shelf];
        if (days.length == 0) return NOT;
        int bits = 0;
        for (short d : days) {
            if (!in(d, 0, 4095)) return NOT;
        }
        for (int h = 0; h < 12; h++) {
            int content = 0;
            for (short d : days) content += d >> h & 1;
            if (content == (what == 0 ? days.length : 0)) bits |= 1 << h;
        }
        return bits;
    }

    int share(int mh, int v) {
        if (mh < 0 || mh / 100 >= men.size() || mh % 100 > 11 || !in(v, 0, 9999)) return BAD;
        int his = 0, all = 0;
        for (Sitter s : sitters) {
            for (Man m : men) {
                int part = gives(m, s.cell, mh % 100);
                all += part;
                if (m.number == mh / 100) his += part;
            }
        }
        return all == 0 ? 0 : v * his / all;
    }

    int late(int sitter, int hour) {
        if (!in(sitter, 0, sitters.size() - 1) || !in(hour, 0, 11)) return BAD;
        int last = NOT;
        for (int h = 0; h <= hour; h++) {
            if (isServed(men, sitters.get(sitter), h)) last = h;
        }
        return last;
    }

    /** Whether he ends served, with so many moves left; mans: it is the man's. */
    boolean ends(Man man, Sitter sitter, int hour, int left, boolean mans) {
        if (left == 0) return isServed(with(man), sitter, hour);
        for (int way = 0; way < 5; way++) {
            int cell = stepped(mans ? man.cell : sitter.cell, way);
            if (cell < 0) continue;
            Man m = man.copy();
            Sitter s = new Sitter();
            s.cell = mans ? sitter.cell : cell;
            s.least = sitter.least;
            m.cell = mans ? cell : man.cell;
            if (ends(m, s, hour, left - 1, !mans) == mans) return mans;
        }
        return !mans;
    }

    int byTurns(int ms, int hn, int what) {
        if (ms < 0 || ms / 10 >= men.size() || ms % 10 >= sitters.size()) return BAD;
        if (hn < 0 || hn / 10 > 11 || !in(hn % 10, 1, 4) || !in(what, 0, 1)) return BAD;
        for (int way : new int[] {4, 0, 1, 2, 3}) {
            Man m = men.get(ms / 10).copy();
            m.cell = stepped(m.cell, way);
            if (m.cell >= 0 && ends(m, sitters.get(ms % 10), hn / 10, hn % 10 - 1, false)) {
                return what == 0 ? 1 : way;
            }
        }
        return what == 0 ? 0 : 4;
    }

    int drawn(int seed, int nc, int sitter) {
        if (nc < 0 || !in(nc / 100, 1, 30) || nc % 100 > 12 || !in(sitter, -1, sitters.size() - 1)) return BAD;
        int z = seed, v = 0;
        for (int day = 0; day < nc / 100; day++) {
            for (int h = 0; h < 12; h++) {
                z = z * 1103515245 + 12345;
                if ((z >>> 8) % 12 < nc % 100) continue;
                List<Man> there = new ArrayList<>(men);
                if (!men.isEmpty()) there.remove((z >>> 16) % men.size());
                for (int i = 0; i < sitters.size(); i++) {
                    Sitter s = sitters.get(i);
                    if ((sitter == -1 || sitter == i) && (s.wants >> h & 1) == 1 && !isServed(there, s, h)) v++;
                }
            }
        }
        return v;
    }

    // ---- in deed

    int passes() {
        int missed = Integer.bitCount(at(led[5], 1));
        led[0]++;
        led[3] += pay((1 << men.size()) - 1);
        led[4] += missed;
        led[5] = led[5] == 11 ? 0 : led[5] + 1;
        return missed;
    }

    int steps(int man, int way) {
        if (!in(man, 0, men.size() - 1) || !in(way, 0, 3)) return BAD;
        int cell = stepped(men.get(man).cell, way);
        if (cell < 0) return STATE;
        led[1]++;
        return men.get(man).cell = cell;
    }

    int bird(int man) {
        if (!in(man, 0, men.size() - 1)) return BAD;
        led[2]++;
        if (men.get(man).arms < 4) men.get(man).arms++;
        return men.get(man).arms;
    }

    int goes(int sitter, int cell) {
        if (!in(sitter, 0, sitters.size() - 1) || !in(cell, 0, 143)) return BAD;
        int was = sitters.get(sitter).cell;
        sitters.get(sitter).cell = cell;
        return was;
    }

    int led(int what) {
        return in(what, 0, 5) ? led[what] : BAD;
    }

    int image() {
        image = new Image(men.stream().mapToInt(m -> m.cell).toArray(), men.stream().mapToInt(m -> m.arms).toArray(),
            sitters.stream().mapToInt(s -> s.cell).toArray(), led.clone());
        return led[0];
    }

    int back() {
        if (image == null) return STATE;
        for (int i = 0; i < image.cells().length; i++) {
            men.get(i).cell = image.cells()[i];
            men.get(i).arms = image.arms()[i];
        }
        for (int i = 0; i < image.seats().length; i++) sitters.get(i).cell = image.seats()[i];
        for (int i = 0; i < 6; i++) led[i] = image.led()[i];
        return led[0];
    }

    // ---- acts: here by Java's own inheritance, which the document tells of

    interface Stands {
        int n();

        List<Integer> ran();

        default int stands(int x) {
            ran().add(1);
            return x + n();
        }
    }

    interface Tells {
        List<Integer> ran();

        int sways(int x);

        int lets(int x);

        default int tells(int x) {
            ran().add(2);
            return sways(x) - lets(1);
        }
    }

    static class Tree implements Stands, Tells {
        int n;
        final List<Integer> ran = new ArrayList<>();

        public int n() { return n; }

        public List<Integer> ran() { return ran; }

        public int sways(int x) { ran.add(10); return stands(x) * 2; }

        public int lets(int x) { ran.add(11); return x ^ n; }
    }

    static class Birch extends Tree {
        public int stands(int x) { ran.add(20); return super.stands(x) + 3; }
    }

    static class Elm extends Tree {
        public int sways(int x) { ran.add(30); return -super.sways(x); }
    }

    static class Oak extends Elm {
        public int lets(int x) { ran.add(40); return super.lets(x) * 3; }

        public int sways(int x) { ran.add(41); return super.sways(x + 1); }
    }

    static class Nest extends Birch {
        public int lets(int x) { ran.add(50); return super.lets(x) - stands(2); }
    }

    static class Coat extends Oak {
        public int tells(int x) { ran.add(60); return super.tells(x) ^ 5; }
    }

    static class Leaf extends Tree {
        public int stands(int x) { ran.add(70); return super.stands(x) * 2; }
    }

    static class Boy extends Nest {
        public int sways(int x) { ran.add(80); return super.sways(x) + lets(2); }

        public int tells(int x) { ran.add(81); return super.tells(x) - 1; }
    }

    static Tree tree(int kind) {
        switch (kind) {
            case 0: return new Tree();
            case 1: return new Birch();
            case 2: return new Elm();
            case 3: return new Oak();
            case 4: return new Nest();
            case 5: return new Coat();
            case 6: return new Leaf();
            default: return new Boy();
        }
    }

    int body(int kind) {
        if (!in(kind, 0, 7)) return BAD;
        if (bodies.size() == 50) return FULL;
        bodies.add(kind);
        return bodies.size() - 1;
    }

    int act(int body, int act, int x) {
        trace = new ArrayList<>();
        if (!in(body, 0, bodies.size() - 1) || !in(act, 0, 3)) return 0;
        Tree t = tree(bodies.get(body));
        t.n = body;
        int v = act == 0 ? t.stands(x) : act == 1 ? t.sways(x) : act == 2 ? t.lets(x) : t.tells(x);
        trace = t.ran;
        return v;
    }

    int trace(int i) {
        return in(i, 0, Math.min(24, trace.size()) - 1) ? trace.get(i) : BAD;
    }

    // ---- shelves, by the host's own refusals

    int keep(int shelf, int body) {
        if (!in(shelf, 0, 5) || !in(body, -1, bodies.size() - 1)) return BAD;
        shelves[shelf] = body == -1 ? null : (Object) body;
        return 1;
    }

    int row(int shelf, int sort, int n) {
        if (!in(shelf, 0, 5) || !in(sort, 0, 4) || n > 60) return BAD;
        Class<?>[] sorts = {byte.class, short.class, int.class, long.class, boolean.class};
        try {
            shelves[shelf] = java.lang.reflect.Array.newInstance(sorts[sort], n);
        } catch (NegativeArraySizeException e) {
            return -14;
        }
        return 1;
    }

    int put(int shelf, int i, long v) {
        if (!in(shelf, 0, 5)) return BAD;
        Object o = shelves[shelf];
        if (o == null) return -11;
        try {
            if (o instanceof byte[] a) a[i] = (byte) v;
            else if (o instanceof short[] a) a[i] = (short) v;
            else if (o instanceof int[] a) a[i] = (int) v;
            else if (o instanceof long[] a) a[i] = v;
            else if (o instanceof boolean[] a) a[i] = v != 0;
            else return -12;
        } catch (ArrayIndexOutOfBoundsException e) {
            return -13;
        }
        return 1;
    }

    long element(int shelf, int i) {
        if (!in(shelf, 0, 5)) return Long.MIN_VALUE;
        Object o = shelves[shelf];
        if (o == null || !o.getClass().isArray() || !in(i, 0, java.lang.reflect.Array.getLength(o) - 1)) {
            return Long.MIN_VALUE;
        }
        return o instanceof boolean[] a ? (a[i] ? 1 : 0) : ((Number) java.lang.reflect.Array.get(o, i)).longValue();
    }

    int shift(int shelf, int i, int other, int j, int n) {
        if (!in(shelf, 0, 5) || !in(other, 0, 5)) return BAD;
        try {
            System.arraycopy(shelves[shelf], i, shelves[other], j, n);
        } catch (NullPointerException e) {
            return -11;
        } catch (ArrayStoreException e) {
            return -12;
        } catch (IndexOutOfBoundsException e) {
            return -13;
        }
        return n;
    }

    int taken(int shelf, int k) {
        if (!in(shelf, 0, 5) || !in(k, 0, 7)) return BAD;
        if (shelves[shelf] == null) return -11;
        if (!(shelves[shelf] instanceof Integer body)) return -12;
        int kind = bodies.get(body);
        return tree(k).getClass().isInstance(tree(kind)) ? kind : -12;
    }

    int count(int what) {
        return in(what, 0, 5) ? new int[] {men.size(), sitters.size(), tape.length(), done.size(), bodies.size(),
            trace.size()}[what] : BAD;
    }
}
