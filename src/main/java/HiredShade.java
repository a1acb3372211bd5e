import java.util.Arrays;

/** Men hired to be the shade on a walk of cells; DOC.md tells what each call answers. */
public final class HiredShade {
    public static final int BAD = -1, NOT = -2, FULL = -3, STATE = -5, VOID = -2000000000;

    private static final int NOTHING_THERE = -11, OTHER_KIND = -12, NO_PLACE = -13, BELOW_ZERO = -14;

    private static final int SIDE = 12, CELLS = 144, HOURS = 12, MEN = 7, SITTERS = 8, SHELVES = 6;
    private static final int MOST_SHADE = 12, ALL_HOURS = 4095, NO_STEP = 4, OAK = 2;

    /** What mend() and of() call a number. */
    private static final int CELL = 0, KIND = 1, ARMS = 2, PAY = 3, SEAT = 4, WANTS = 5, LEAST = 6, BREEZE = 7;

    private static final int BYTES = 0, SHORTS = 1;

    /** None comes first, since of like steps none is taken first. */
    private static final int[] STEP_ORDER = {4, 0, 1, 2, 3};

    private final People people = new People();
    private final Law law = new Law();
    private final Shade shade = new Shade(people, law);
    private final Thought thought = new Thought(people, shade);
    private final Books books = new Books(people, shade);
    private final Turns turns = new Turns(people, shade);
    private final Changes changes = new Changes(people);
    private final Deeds deeds = new Deeds(people);
    private final Trees trees = new Trees();
    private final Shelf[] shelves = new Shelf[SHELVES];

    public HiredShade() {
        for (int i = 0; i < SHELVES; i++) {
            shelves[i] = new Shelf();
        }
    }

    // ---- men, sitters

    public int man(int cell, int kind) {
        if (!people.fits(CELL, cell) || !people.fits(KIND, kind)) {
            return BAD;
        }
        return people.addMan(cell, kind);
    }

    public int sitter(int cell, int wants) {
        if (!people.fits(SEAT, cell) || !people.fits(WANTS, wants)) {
            return BAD;
        }
        return people.addSitter(cell, wants, 6);
    }

    public int sitters(int shelf, int i, int n) {
        if (!isShelf(shelf) || n < 1 || n > SITTERS) {
            return BAD;
        }
        Shelf from = shelves[shelf];
        if (from.isEmpty()) {
            return 0;
        }
        if (!from.isRowOf(SHORTS)) {
            return OTHER_KIND;
        }
        int came = 0;
        while (came < n && sitterFrom(from, (long) i + 3L * came)) {
            came++;
        }
        return came;
    }

    public int mend(int number, int what, int v) {
        if (!people.has(number, what) || !people.fits(what, v)) {
            return BAD;
        }
        int was = people.get(number, what);
        if (was != v) {
            changes.add(number, what, v);
        }
        return was;
    }

    public int of(int number, int what) {
        return people.has(number, what) ? people.get(number, what) : BAD;
    }

    public int feed(int letter) {
        if (letter < 0 || letter > 255) {
            return BAD;
        }
        return law.take(letter);
    }

    public int law() {
        int fault = law.learn();
        return fault < 0 ? 1 : -100 - fault;
    }

    // ---- shade in thought

    public int shade(int ch, int man) {
        int cell = ch / 100;
        int hour = ch % 100;
        if (ch < 0 || cell >= CELLS || hour >= HOURS || man < -1 || man >= people.men) {
            return BAD;
        }
        return man < 0 ? Math.min(MOST_SHADE, shade.byAll(cell, hour)) : shade.byMan(man, cell, hour);
    }

    public int walk(int hour, int what) {
        if (!isHour(hour) || !isChoice(what, 2)) {
            return BAD;
        }
        return what == 0 ? thought.shadyCells(hour) : thought.darkest(hour);
    }

    public int served(int sitter, int what) {
        if (!people.has(sitter, SEAT) || !isChoice(what, 2)) {
            return BAD;
        }
        return what == 0 ? thought.hoursOf(sitter) : thought.missesOf(sitter);
    }

    public int at(int hour, int what) {
        if (hour == HOURS && what == 0) {
            return thought.missesOfAll();
        }
        if (!isHour(hour) || !isChoice(what, 2)) {
            return BAD;
        }
        return what == 0 ? thought.servedAt(hour) : thought.missingAt(hour);
    }

    public int enough(int what) {
        switch (what) {
            case 0: return Integer.bitCount(thought.fewest());
            case 1: return thought.fewest();
            case 2: return thought.cheapest();
            case 3: return people.payOf(thought.cheapest());
            case 4: return thought.needed();
            default: return BAD;
        }
    }

    public int roster(int hour) {
        if (hour == HOURS) {
            return thought.payOfRosters();
        }
        return isHour(hour) ? thought.rosterAt(hour) : BAD;
    }

    public int oneMore(int kind, int what) {
        if (!people.fits(KIND, kind) || !isChoice(what, 2)) {
            return BAD;
        }
        int cell = thought.bestCell(kind);
        return what == 0 ? cell : thought.missesBeside(kind, cell);
    }

    public int step(int man, int what) {
        if (!people.has(man, CELL) || !isChoice(what, 2)) {
            return BAD;
        }
        int way = thought.bestStep(man);
        return what == 0 ? way : thought.missesAfter(man, way);
    }

    // ---- books

    public int judge(int shelf, int hour) {
        if (!isShelf(shelf) || !isHour(hour)) {
            return BAD;
        }
        int refusal = shelves[shelf].refusalAs(BYTES);
        if (refusal != 0) {
            return refusal;
        }
        books.open(shelves[shelf]);
        return books.firstWrong(hour);
    }

    public int stood(int shelf, int mh, int what) {
        int man = mh / 100;
        int hour = mh % 100;
        if (!isShelf(shelf) || mh < 0 || man >= people.men || !isHour(hour) || !isChoice(what, 3)) {
            return BAD;
        }
        int refusal = shelves[shelf].refusalAs(BYTES);
        if (refusal != 0) {
            return refusal;
        }
        books.open(shelves[shelf]);
        books.leaveOut(man, hour);
        switch (what) {
            case 0: return books.cellsThatFit();
            case 1: return books.leastCellThatFits();
            default: return books.kindsThatFit();
        }
    }

    public int who(int shelf, int hour, int what) {
        if (!isShelf(shelf) || !isHour(hour) || !isChoice(what, 3)) {
            return BAD;
        }
        int refusal = shelves[shelf].refusalAs(BYTES);
        if (refusal != 0) {
            return refusal;
        }
        books.open(shelves[shelf]);
        books.weighMen(hour);
        switch (what) {
            case 0: return books.setsThatFit();
            case 1: return books.leastSetThatFits();
            default: return books.certain();
        }
    }

    public int wish(int shelf, int what) {
        if (!isShelf(shelf) || !isChoice(what, 2)) {
            return BAD;
        }
        int refusal = shelves[shelf].refusalAs(SHORTS);
        if (refusal != 0) {
            return refusal;
        }
        return books.wishOf(shelves[shelf], what == 0);
    }

    public int share(int mh, int v) {
        int man = mh / 100;
        int hour = mh % 100;
        if (mh < 0 || man >= people.men || !isHour(hour) || v < 0 || v > 9999) {
            return BAD;
        }
        return thought.shareOf(man, hour, v);
    }

    public int late(int sitter, int hour) {
        if (!people.has(sitter, SEAT) || !isHour(hour)) {
            return BAD;
        }
        return thought.lastServed(sitter, hour);
    }

    public int byTurns(int ms, int hn, int what) {
        int man = ms / 10;
        int sitter = ms % 10;
        int hour = hn / 10;
        int n = hn % 10;
        if (ms < 0 || man >= people.men || sitter >= people.sitters || !isChoice(what, 2)) {
            return BAD;
        }
        if (hn < 0 || hour >= HOURS || n < 1 || n > 4) {
            return BAD;
        }
        int way = turns.winningStep(man, sitter, hour, n);
        if (what == 0) {
            return way < 0 ? 0 : 1;
        }
        return way < 0 ? NO_STEP : way;
    }

    public int drawn(int seed, int nc, int sitter) {
        int days = nc / 100;
        int clouds = nc % 100;
        if (nc < 0 || days < 1 || days > 30 || clouds > 12 || sitter < -1 || sitter >= people.sitters) {
            return BAD;
        }
        return thought.missesDrawn(seed, days, clouds, sitter);
    }

    // ---- in deed

    public int passes() {
        int missed = Integer.bitCount(thought.missingAt(deeds.hour()));
        deeds.hourPasses(missed);
        return missed;
    }

    public int steps(int man, int way) {
        if (!people.has(man, CELL) || !isChoice(way, 4)) {
            return BAD;
        }
        return deeds.manSteps(man, way);
    }

    public int bird(int man) {
        return people.has(man, CELL) ? deeds.birdGetsIn(man) : BAD;
    }

    public int goes(int sitter, int cell) {
        if (!people.has(sitter, SEAT) || !people.fits(SEAT, cell)) {
            return BAD;
        }
        int was = people.get(sitter, SEAT);
        people.set(sitter, SEAT, cell);
        return was;
    }

    public int led(int what) {
        return isChoice(what, 6) ? deeds.told(what) : BAD;
    }

    public int image() {
        return deeds.keepImage();
    }

    public int back() {
        return deeds.layBack();
    }

    public int undo() {
        return changes.takeBack();
    }

    public int redo() {
        return changes.doAgain();
    }

    // ---- acts, shelves

    public int body(int kind) {
        return isChoice(kind, 8) ? trees.plant(kind) : BAD;
    }

    public int act(int body, int act, int x) {
        return trees.perform(body, act, x);
    }

    public int trace(int i) {
        return trees.traced(i);
    }

    public int keep(int shelf, int body) {
        if (!isShelf(shelf) || body < -1 || body >= trees.planted) {
            return BAD;
        }
        shelves[shelf].holdTree(body);
        return 1;
    }

    public int row(int shelf, int sort, int n) {
        if (!isShelf(shelf) || !isChoice(sort, 5) || n > Shelf.LONGEST) {
            return BAD;
        }
        if (n < 0) {
            return BELOW_ZERO;
        }
        shelves[shelf].holdRow(sort, n);
        return 1;
    }

    public int put(int shelf, int i, long v) {
        if (!isShelf(shelf)) {
            return BAD;
        }
        int refusal = shelves[shelf].refusalAt(i);
        if (refusal != 0) {
            return refusal;
        }
        shelves[shelf].set(i, v);
        return 1;
    }

    public long element(int shelf, int i) {
        if (!isShelf(shelf) || shelves[shelf].refusalAt(i) != 0) {
            return Long.MIN_VALUE;
        }
        return shelves[shelf].get(i);
    }

    public int shift(int shelf, int i, int other, int j, int n) {
        if (!isShelf(shelf) || !isShelf(other)) {
            return BAD;
        }
        return shelves[shelf].copyTo(i, shelves[other], j, n);
    }

    public int taken(int shelf, int k) {
        if (!isShelf(shelf) || !isChoice(k, 8)) {
            return BAD;
        }
        Shelf from = shelves[shelf];
        if (from.isEmpty()) {
            return NOTHING_THERE;
        }
        int kind = trees.kindOf(from.tree());
        return trees.isUnder(kind, k) ? kind : OTHER_KIND;
    }

    public int count(int what) {
        switch (what) {
            case 0: return people.men;
            case 1: return people.sitters;
            case 2: return law.fed;
            case 3: return changes.done;
            case 4: return trees.planted;
            case 5: return trees.ran;
            default: return BAD;
        }
    }

    private static boolean isHour(int hour) {
        return hour >= 0 && hour < HOURS;
    }

    private static boolean isShelf(int shelf) {
        return shelf >= 0 && shelf < SHELVES;
    }

    private static boolean isChoice(int what, int choices) {
        return what >= 0 && what < choices;
    }

    /** The CELL a step leads to; -1 over the edge. */
    private static int cellAfter(int cell, int way) {
        int x = cell % SIDE + (way == 1 ? 1 : way == 3 ? -1 : 0);
        int y = cell / SIDE + (way == 2 ? 1 : way == 0 ? -1 : 0);
        return x < 0 || x >= SIDE || y < 0 || y >= SIDE ? -1 : SIDE * y + x;
    }

    /** place is a long, since three times n behind the last int must not wrap into the row. */
    private boolean sitterFrom(Shelf from, long place) {
        if (place < 0 || place + 2 >= from.size()) {
            return false;
        }
        int at = (int) place;
        int cell = (int) from.get(at);
        int wants = (int) from.get(at + 1);
        int least = (int) from.get(at + 2);
        if (!people.fits(SEAT, cell) || !people.fits(WANTS, wants) || !people.fits(LEAST, least)) {
            return false;
        }
        return people.addSitter(cell, wants, least) >= 0;
    }

    /** All that mend() can mend: the numbers of men and sitters, and the breeze. */
    private static final class People {
        private static final int SORTS = 8, SEATS = 8;
        private static final int[] LOWEST = {0, 0, 0, 0, 0, 0, 1, 0};
        private static final int[] HIGHEST = {143, 2, 4, 99, 143, 4095, 12, 9};

        private final int[] numbers = new int[SORTS * SEATS];
        private int men;
        private int sitters;

        int addMan(int cell, int kind) {
            if (men >= MEN) {
                return FULL;
            }
            int number = men;
            men++;
            set(number, CELL, cell);
            set(number, KIND, kind);
            set(number, ARMS, 1);
            set(number, PAY, 10);
            return number;
        }

        int addSitter(int cell, int wants, int least) {
            if (sitters >= SITTERS) {
                return FULL;
            }
            int number = sitters;
            sitters++;
            set(number, SEAT, cell);
            set(number, WANTS, wants);
            set(number, LEAST, least);
            return number;
        }

        boolean has(int number, int what) {
            if (what < 0 || what >= SORTS || number < 0) {
                return false;
            }
            return number < (what < SEAT ? men : what < BREEZE ? sitters : 1);
        }

        boolean fits(int what, int v) {
            return what >= 0 && what < SORTS && v >= LOWEST[what] && v <= HIGHEST[what];
        }

        int get(int number, int what) {
            return has(number, what) ? numbers[SEATS * what + number] : 0;
        }

        void set(int number, int what, int v) {
            if (has(number, what)) {
                numbers[SEATS * what + number] = v;
            }
        }

        int payOf(int set) {
            int pay = 0;
            for (int m = 0; m < men; m++) {
                if ((set >> m & 1) != 0) {
                    pay += get(m, PAY);
                }
            }
            return pay;
        }

        int everyone() {
            return (1 << men) - 1;
        }
    }

    /** THE TAPE, and THE LAW that is made of it: words for a machine with a stack. */
    private static final class Law {
        private static final int LONGEST = 120, MOST_OPEN = 6, LAST_LEVEL = 5, COMPARING = 2;
        private static final int NUMBER = 0, NAME = 1, END = 2, SKIP = 3, NEITHER = 4, MINUS = 5;
        private static final int OR = 6, AND = 7, LESS = 8, SAME = 9, MORE = 10;
        private static final int PLUS = 11, LESSEN = 12, TIMES = 13, SHARE = 14, REST = 15;
        private static final int OP_BITS = 5, OP_MASK = 31;

        private final int[] tape = new int[LONGEST];
        private int fed;
        private int place;
        // A letter makes one word at most, and the last line one END of its own.
        private int[] words = new int[LONGEST + 8];
        private int size;
        private int[] draft = new int[LONGEST + 8];
        private int drafted;
        private boolean hasText;
        private final int[] stack = new int[64];
        private final int[] named = new int[6];

        int take(int letter) {
            if (fed >= LONGEST) {
                return FULL;
            }
            tape[fed] = letter;
            fed++;
            return fed;
        }

        /** The FAULT, or -1: a draft is read first, so that a faulty text leaves the law as it was. */
        int learn() {
            place = 0;
            drafted = 0;
            boolean good = readText();
            fed = 0;
            if (!good) {
                return place;
            }
            int[] old = words;
            words = draft;
            draft = old;
            size = drafted;
            hasText = true;
            return -1;
        }

        boolean isTold() {
            return hasText;
        }

        int value(int kind, int steps, int across, int breeze, int hour, int man) {
            named[0] = kind;
            named[1] = steps;
            named[2] = across;
            named[3] = breeze;
            named[4] = hour;
            named[5] = man;
            int top = 0;
            int at = 0;
            // Skips lead onward only, so no word is met twice.
            for (int turn = 0; turn < words.length && at >= 0 && at < size; turn++) {
                int op = words[at] & OP_MASK;
                int more = words[at] >> OP_BITS;
                at++;
                if (op == END) {
                    return top > 0 ? stack[top - 1] : 0;
                }
                if (op <= NAME) {
                    if (top >= stack.length) {
                        return 0;
                    }
                    stack[top] = op == NUMBER ? more : valueOf(more);
                    top++;
                    continue;
                }
                if (top < (op < OR ? 1 : 2)) {
                    return 0;
                }
                if (op == SKIP) {
                    top--;
                    at = stack[top] == 0 ? more : at;
                } else if (op < OR) {
                    int v = stack[top - 1];
                    stack[top - 1] = op == MINUS ? -v : v == 0 ? 1 : 0;
                } else {
                    top--;
                    stack[top - 1] = worked(op, stack[top - 1], stack[top]);
                }
            }
            return 0;
        }

        private int valueOf(int name) {
            return name >= 0 && name < named.length ? named[name] : 0;
        }

        private static int worked(int op, int l, int r) {
            switch (op) {
                case OR: return l != 0 || r != 0 ? 1 : 0;
                case AND: return l != 0 && r != 0 ? 1 : 0;
                case LESS: return l < r ? 1 : 0;
                case SAME: return l == r ? 1 : 0;
                case MORE: return l > r ? 1 : 0;
                case PLUS: return l + r;
                case LESSEN: return l - r;
                case TIMES: return l * r;
                case SHARE: return r == 0 ? 0 : l / r;
                default: return r == 0 ? 0 : l % r;
            }
        }

        private boolean readText() {
            for (int line = 0; line <= LONGEST; line++) {
                if (!readLine()) {
                    return false;
                }
                int letter = next();
                if (letter < 0) {
                    return true;
                }
                if (letter != ';') {
                    return false;
                }
                place++;
            }
            return false;
        }

        private boolean readLine() {
            if (!readLevel(0, 0)) {
                return false;
            }
            if (next() == '?') {
                place++;
                int skip = drafted;
                write(SKIP, 0);
                if (!readLevel(0, 0)) {
                    return false;
                }
                write(END, 0);
                if (skip < draft.length) {
                    draft[skip] = SKIP | drafted << OP_BITS;
                }
                return true;
            }
            write(END, 0);
            return true;
        }

        /** Levels are E, A, B, S, P; behind them come operands. open: how many ( ! - are. */
        private boolean readLevel(int level, int open) {
            if (level >= LAST_LEVEL) {
                return readOperand(open);
            }
            if (!readLevel(level + 1, open)) {
                return false;
            }
            int most = level == COMPARING ? 1 : LONGEST;
            for (int i = 0; i < most; i++) {
                int op = operator(level, next());
                if (op < 0) {
                    return true;
                }
                place++;
                if (!readLevel(level + 1, open)) {
                    return false;
                }
                write(op, 0);
            }
            return true;
        }

        private boolean readOperand(int open) {
            int letter = next();
            if (isDigit(letter)) {
                readNumber();
                return true;
            }
            int name = nameOf(letter);
            if (name >= 0) {
                place++;
                write(NAME, name);
                return true;
            }
            if (open >= MOST_OPEN || letter != '(' && letter != '!' && letter != '-') {
                return false;
            }
            place++;
            if (letter != '(') {
                boolean good = readOperand(open + 1);
                write(letter == '!' ? NEITHER : MINUS, 0);
                return good;
            }
            if (!readLevel(0, open + 1) || next() != ')') {
                return false;
            }
            place++;
            return true;
        }

        private void readNumber() {
            int v = 0;
            for (int digits = 0; digits < 4 && isDigit(next()); digits++) {
                v = 10 * v + next() - '0';
                place++;
            }
            write(NUMBER, v);
        }

        private int next() {
            return place < fed && place < LONGEST ? tape[place] : -1;
        }

        private void write(int op, int more) {
            if (drafted < draft.length) {
                draft[drafted] = op | more << OP_BITS;
                drafted++;
            }
        }

        private static boolean isDigit(int letter) {
            return letter >= '0' && letter <= '9';
        }

        private static int nameOf(int letter) {
            switch (letter) {
                case 'k': return 0;
                case 's': return 1;
                case 'a': return 2;
                case 'b': return 3;
                case 'h': return 4;
                case 'm': return 5;
                default: return -1;
            }
        }

        private static int operator(int level, int letter) {
            switch (letter) {
                case '|': return level == 0 ? OR : -1;
                case '&': return level == 1 ? AND : -1;
                case '<': return level == COMPARING ? LESS : -1;
                case '=': return level == COMPARING ? SAME : -1;
                case '>': return level == COMPARING ? MORE : -1;
                case '+': return level == 3 ? PLUS : -1;
                case '-': return level == 3 ? LESSEN : -1;
                case '*': return level == 4 ? TIMES : -1;
                case '/': return level == 4 ? SHARE : -1;
                case '%': return level == 4 ? REST : -1;
                default: return -1;
            }
        }
    }

    /** THE SUN, and what the men make of it. */
    private static final class Shade {
        private static final int[] LONG = {4, 3, 2, 1, 1, 1, 2, 2, 1, 2, 3, 4};

        private final People people;
        private final Law law;

        Shade(People people, Law law) {
            this.people = people;
            this.law = law;
        }

        /** What one of the men would give to a cell if he stood in from and were of a kind. */
        int ifHe(int man, int from, int kind, int cell, int hour) {
            return cast(from, kind, people.get(man, ARMS), man, cell, hour);
        }

        int cast(int from, int kind, int arms, int man, int cell, int hour) {
            if (!isHour(hour)) {
                return 0;
            }
            int right = cell % SIDE - from % SIDE;
            int down = cell / SIDE - from / SIDE;
            boolean up = hour >= 4 && hour < 8;
            int steps = up ? -down : hour < 4 ? -right : right;
            int across = Math.abs(up ? right : down);
            if (steps < 1 || steps > LONG[hour] + (kind == OAK ? 1 : 0) || across > arms) {
                return 0;
            }
            int breeze = people.get(0, BREEZE);
            int v = 6 + 2 * kind - steps - across - breeze;
            if (law.isTold()) {
                v = law.value(kind, steps, across, breeze, hour, man);
            }
            return Math.max(0, Math.min(MOST_SHADE, v));
        }

        int byMan(int man, int cell, int hour) {
            if (man >= people.men) {
                return 0;
            }
            int from = people.get(man, CELL);
            return cast(from, people.get(man, KIND), people.get(man, ARMS), man, cell, hour);
        }

        /** May be above 12: who leaves some men out needs what lies over it. */
        int byAll(int cell, int hour) {
            int sum = 0;
            for (int m = 0; m < people.men; m++) {
                sum += byMan(m, cell, hour);
            }
            return sum;
        }
    }

    /** Who is served, and by how few, how cheaply, by whom else. */
    private static final class Thought {
        private static final int PAIRS = 96, SETS = 128, LAST_HOUR = 11;

        private final People people;
        private final Shade shade;
        // A pair is 12 times a sitter, and an hour: what his cell has then, and by whom.
        private final int[] sums = new int[PAIRS];
        private final int[] gives = new int[PAIRS * MEN];
        private final int[] parts = new int[SETS];
        private final int[] fails = new int[SETS];
        private final int[] lost = new int[HOURS * MEN];

        Thought(People people, Shade shade) {
            this.people = people;
            this.shade = shade;
        }

        int shadyCells(int hour) {
            int cells = 0;
            for (int c = 0; c < CELLS; c++) {
                if (shade.byAll(c, hour) > 0) {
                    cells++;
                }
            }
            return cells;
        }

        int darkest(int hour) {
            int best = 0;
            int most = 0;
            for (int c = 0; c < CELLS; c++) {
                int here = Math.min(MOST_SHADE, shade.byAll(c, hour));
                if (here > most) {
                    most = here;
                    best = c;
                }
            }
            return best;
        }

        int hoursOf(int sitter) {
            weigh(0, LAST_HOUR);
            int hours = 0;
            for (int h = 0; h < HOURS; h++) {
                if (isServed(HOURS * sitter + h)) {
                    hours |= 1 << h;
                }
            }
            return hours;
        }

        int missesOf(int sitter) {
            return Integer.bitCount(people.get(sitter, WANTS) & ~hoursOf(sitter));
        }

        int missesOfAll() {
            weigh(0, LAST_HOUR);
            int misses = 0;
            for (int pair = 0; pair < HOURS * people.sitters; pair++) {
                if (isWanted(pair) && !isServed(pair)) {
                    misses++;
                }
            }
            return misses;
        }

        int servedAt(int hour) {
            weigh(hour, hour);
            int set = 0;
            for (int s = 0; s < people.sitters; s++) {
                if (isServed(HOURS * s + hour)) {
                    set |= 1 << s;
                }
            }
            return set;
        }

        int missingAt(int hour) {
            int served = servedAt(hour);
            int set = 0;
            for (int s = 0; s < people.sitters; s++) {
                if (isWanted(HOURS * s + hour)) {
                    set |= 1 << s;
                }
            }
            return set & ~served;
        }

        int lastServed(int sitter, int hour) {
            weigh(0, hour);
            for (int h = hour; h >= 0; h--) {
                if (isServed(HOURS * sitter + h)) {
                    return h;
                }
            }
            return NOT;
        }

        int shareOf(int man, int hour, int v) {
            weigh(hour, hour);
            int his = 0;
            int all = 0;
            for (int s = 0; s < people.sitters; s++) {
                int pair = HOURS * s + hour;
                his += gives[MEN * pair + man];
                all += sums[pair];
            }
            return all == 0 ? 0 : v * his / all;
        }

        int fewest() {
            weighSets();
            int best = people.everyone();
            for (int set = 0; set < people.everyone(); set++) {
                if (fails[set] == 0 && Integer.bitCount(set) < Integer.bitCount(best)) {
                    best = set;
                }
            }
            return best;
        }

        int cheapest() {
            weighSets();
            return cheapestSet(ALL_HOURS, true);
        }

        int needed() {
            weighSets();
            int set = 0;
            for (int m = 0; m < people.men; m++) {
                if (fails[people.everyone() & ~(1 << m)] != 0) {
                    set |= 1 << m;
                }
            }
            return set;
        }

        int rosterAt(int hour) {
            weighSets();
            return cheapestSet(1 << hour, false);
        }

        int payOfRosters() {
            weighSets();
            int pay = 0;
            for (int h = 0; h < HOURS; h++) {
                pay += people.payOf(cheapestSet(1 << h, false));
            }
            return pay;
        }

        int bestCell(int kind) {
            weigh(0, LAST_HOUR);
            int best = 0;
            int least = Integer.MAX_VALUE;
            for (int c = 0; c < CELLS; c++) {
                int misses = missesBeside(kind, c);
                if (misses < least) {
                    least = misses;
                    best = c;
                }
            }
            return best;
        }

        /** By what was weighed last: misses if one more stood in a cell. */
        int missesBeside(int kind, int cell) {
            int misses = 0;
            for (int pair = 0; pair < HOURS * people.sitters; pair++) {
                if (!isWanted(pair) || isServed(pair)) {
                    continue;
                }
                int more = shade.cast(cell, kind, 1, people.men, seatOf(pair), pair % HOURS);
                if (sums[pair] + more < leastOf(pair)) {
                    misses++;
                }
            }
            return misses;
        }

        int bestStep(int man) {
            weigh(0, LAST_HOUR);
            int best = NO_STEP;
            int least = Integer.MAX_VALUE;
            for (int way : STEP_ORDER) {
                int misses = missesAfter(man, way);
                if (misses < least) {
                    least = misses;
                    best = way;
                }
            }
            return best;
        }

        /** By what was weighed last: misses behind a step of his; over the edge more than any step has. */
        int missesAfter(int man, int way) {
            int cell = cellAfter(people.get(man, CELL), way);
            if (cell < 0) {
                return Integer.MAX_VALUE;
            }
            int kind = people.get(man, KIND);
            int misses = 0;
            for (int pair = 0; pair < HOURS * people.sitters; pair++) {
                if (!isWanted(pair)) {
                    continue;
                }
                int others = sums[pair] - gives[MEN * pair + man];
                if (others + shade.ifHe(man, cell, kind, seatOf(pair), pair % HOURS) < leastOf(pair)) {
                    misses++;
                }
            }
            return misses;
        }

        int missesDrawn(int seed, int days, int clouds, int sitter) {
            weigh(0, LAST_HOUR);
            countLost(sitter);
            int z = seed;
            int misses = 0;
            for (int draw = 0; draw < days * HOURS; draw++) {
                z = z * 1103515245 + 12345;
                if ((z >>> 8) % 12 >= clouds) {
                    // Where there are no men, the place of the first says what all miss.
                    int away = people.men == 0 ? 0 : (z >>> 16) % people.men;
                    misses += lost[draw % HOURS * MEN + away];
                }
            }
            return misses;
        }

        /** Misses by hour, of one sitter or all (-1), while one man is away. */
        private void countLost(int sitter) {
            Arrays.fill(lost, 0);
            for (int pair = 0; pair < HOURS * people.sitters; pair++) {
                boolean counts = sitter < 0 || sitter == pair / HOURS;
                for (int m = 0; counts && isWanted(pair) && m < MEN; m++) {
                    if (sums[pair] - gives[MEN * pair + m] < leastOf(pair)) {
                        lost[pair % HOURS * MEN + m]++;
                    }
                }
            }
        }

        /** Fills sums and gives for these hours; a man who is not there gives 0. */
        private void weigh(int first, int last) {
            for (int s = 0; s < people.sitters; s++) {
                int cell = people.get(s, SEAT);
                for (int h = first; h <= last; h++) {
                    int pair = HOURS * s + h;
                    sums[pair] = 0;
                    for (int m = 0; m < MEN; m++) {
                        gives[MEN * pair + m] = shade.byMan(m, cell, h);
                        sums[pair] += gives[MEN * pair + m];
                    }
                }
            }
        }

        /** Fills fails: for each set of men the hours (bits) at which it fails someone whom all serve. */
        private void weighSets() {
            weigh(0, LAST_HOUR);
            Arrays.fill(fails, 0);
            for (int pair = 0; pair < HOURS * people.sitters; pair++) {
                if (isWanted(pair) && isServed(pair)) {
                    markFails(pair);
                }
            }
        }

        private void markFails(int pair) {
            parts[0] = 0;
            for (int m = 0; m < people.men; m++) {
                for (int rest = 0; rest < 1 << m; rest++) {
                    parts[1 << m | rest] = parts[rest] + gives[MEN * pair + m];
                }
            }
            int least = leastOf(pair);
            for (int set = 0; set <= people.everyone(); set++) {
                if (parts[set] < least) {
                    fails[set] |= 1 << pair % HOURS;
                }
            }
        }

        private int cheapestSet(int hours, boolean fewFirst) {
            int best = people.everyone();
            int bestPay = people.payOf(best);
            for (int set = 0; set < people.everyone(); set++) {
                if ((fails[set] & hours) != 0) {
                    continue;
                }
                int pay = people.payOf(set);
                if (pay < bestPay || pay == bestPay && isNicer(set, best, fewFirst)) {
                    best = set;
                    bestPay = pay;
                }
            }
            return best;
        }

        private static boolean isNicer(int set, int best, boolean fewFirst) {
            int fewer = Integer.bitCount(best) - Integer.bitCount(set);
            return fewFirst && fewer != 0 ? fewer > 0 : set < best;
        }

        private boolean isServed(int pair) {
            return sums[pair] >= leastOf(pair);
        }

        private boolean isWanted(int pair) {
            return (people.get(pair / HOURS, WANTS) >> pair % HOURS & 1) != 0;
        }

        private int seatOf(int pair) {
            return people.get(pair / HOURS, SEAT);
        }

        private int leastOf(int pair) {
            return people.get(pair / HOURS, LEAST);
        }
    }

    /** What books of light, and of content days, tell. */
    private static final class Books {
        private static final int MOST = 20;

        private final People people;
        private final Shade shade;
        private final int[] cells = new int[MOST];
        private final int[] told = new int[MOST];
        private int threes;
        private boolean broken;
        private final int[] others = new int[MOST];
        private final int[] gives = new int[MOST * MEN];
        private int man;
        private int hour;

        Books(People people, Shade shade) {
            this.people = people;
            this.shade = shade;
        }

        /** Takes the threes up to the first that can be so nowhere. */
        void open(Shelf book) {
            threes = 0;
            broken = false;
            for (int at = 0; at < book.size() && threes < MOST; at += 3) {
                if (at + 2 >= book.size() || !isThree(book, at)) {
                    broken = true;
                    return;
                }
                cells[threes] = SIDE * (int) book.get(at + 1) + (int) book.get(at);
                told[threes] = (int) book.get(at + 2);
                threes++;
            }
        }

        /** How much shade it tells is not looked at: no cell ever has less than 0 or more than 12. */
        private static boolean isThree(Shelf book, int at) {
            long x = book.get(at);
            long y = book.get(at + 1);
            return x >= 0 && x < SIDE && y >= 0 && y < SIDE;
        }

        int firstWrong(int hour) {
            for (int i = 0; i < threes; i++) {
                if (Math.min(MOST_SHADE, shade.byAll(cells[i], hour)) != told[i]) {
                    return i;
                }
            }
            return broken ? threes : NOT;
        }

        void leaveOut(int man, int hour) {
            this.man = man;
            this.hour = hour;
            for (int i = 0; i < threes; i++) {
                others[i] = shade.byAll(cells[i], hour) - shade.byMan(man, cells[i], hour);
            }
        }

        int cellsThatFit() {
            int many = 0;
            for (int c = 0; c < CELLS; c++) {
                if (fitsHim(c, people.get(man, KIND))) {
                    many++;
                }
            }
            return many;
        }

        int leastCellThatFits() {
            for (int c = 0; c < CELLS; c++) {
                if (fitsHim(c, people.get(man, KIND))) {
                    return c;
                }
            }
            return NOT;
        }

        int kindsThatFit() {
            int kinds = 0;
            for (int k = 0; k <= OAK; k++) {
                if (fitsHim(people.get(man, CELL), k)) {
                    kinds |= 1 << k;
                }
            }
            return kinds;
        }

        private boolean fitsHim(int cell, int kind) {
            for (int i = 0; i < threes; i++) {
                int sum = others[i] + shade.ifHe(man, cell, kind, cells[i], hour);
                if (Math.min(MOST_SHADE, sum) != told[i]) {
                    return false;
                }
            }
            return !broken;
        }

        void weighMen(int hour) {
            for (int i = 0; i < threes; i++) {
                for (int m = 0; m < people.men; m++) {
                    gives[i * MEN + m] = shade.byMan(m, cells[i], hour);
                }
            }
        }

        int setsThatFit() {
            int many = 0;
            for (int set = 0; set <= people.everyone(); set++) {
                if (fitsSet(set)) {
                    many++;
                }
            }
            return many;
        }

        int leastSetThatFits() {
            for (int set = 0; set <= people.everyone(); set++) {
                if (fitsSet(set)) {
                    return set;
                }
            }
            return NOT;
        }

        int certain() {
            int inAll = people.everyone();
            boolean any = false;
            for (int set = 0; set <= people.everyone(); set++) {
                if (fitsSet(set)) {
                    any = true;
                    inAll &= set;
                }
            }
            return any ? inAll : 0;
        }

        private boolean fitsSet(int set) {
            for (int i = 0; i < threes; i++) {
                int sum = 0;
                for (int m = 0; m < people.men; m++) {
                    if ((set >> m & 1) != 0) {
                        sum += gives[i * MEN + m];
                    }
                }
                if (Math.min(MOST_SHADE, sum) != told[i]) {
                    return false;
                }
            }
            return !broken;
        }

        int wishOf(Shelf days, boolean inAll) {
            int all = ALL_HOURS;
            int any = 0;
            for (int i = 0; i < days.size(); i++) {
                long content = days.get(i);
                if (content < 0 || content > ALL_HOURS) {
                    return NOT;
                }
                all &= (int) content;
                any |= (int) content;
            }
            if (days.size() == 0) {
                return NOT;
            }
            return inAll ? all : ALL_HOURS & ~any;
        }
    }

    /** A man and a sitter who move by turns, thought out from the last move to the first. */
    private static final class Turns {
        private static final int WHOLE_ROW = 4095;

        private final People people;
        private final Shade shade;
        // Word 12 c + y, bit x: with the man in c, a sitter in x, y ends served.
        private int[] shady = new int[CELLS * SIDE];
        private int[] before = new int[CELLS * SIDE];

        Turns(People people, Shade shade) {
            this.people = people;
            this.shade = shade;
        }

        /** The first step by which the sitter ends served whatever he does; -1: there is none. */
        int winningStep(int man, int sitter, int hour, int n) {
            int from = people.get(man, CELL);
            int seat = people.get(sitter, SEAT);
            // Neither makes more moves than these: what stands farther off is never looked at.
            int reach = (n + 1) / 2;
            lastPlaces(man, sitter, hour, reach);
            for (int move = n - 1; move > 0; move--) {
                if (move % 2 == 0) {
                    manMoves(from, reach);
                } else {
                    sitterMoves(from, reach);
                }
                int[] later = shady;
                shady = before;
                before = later;
            }
            for (int way : STEP_ORDER) {
                int cell = cellAfter(from, way);
                if (cell >= 0 && (shady[SIDE * cell + seat / SIDE] >> seat % SIDE & 1) != 0) {
                    return way;
                }
            }
            return -1;
        }

        private void lastPlaces(int man, int sitter, int hour, int reach) {
            Arrays.fill(shady, 0);
            for (int seat = 0; seat < CELLS; seat++) {
                if (apart(seat, people.get(sitter, SEAT)) <= reach) {
                    int others = shade.byAll(seat, hour) - shade.byMan(man, seat, hour);
                    markSeat(man, seat, hour, reach, people.get(sitter, LEAST) - others);
                }
            }
        }

        private void markSeat(int man, int seat, int hour, int reach, int lacks) {
            int from = people.get(man, CELL);
            int kind = people.get(man, KIND);
            for (int c = 0; c < CELLS; c++) {
                if (apart(c, from) <= reach && shade.ifHe(man, c, kind, seat, hour) >= lacks) {
                    shady[SIDE * c + seat / SIDE] |= 1 << seat % SIDE;
                }
            }
        }

        /** He ends served only if every step, and none, leads there; over the edge he can't go. */
        private void sitterMoves(int from, int reach) {
            for (int c = 0; c < CELLS; c++) {
                if (apart(c, from) > reach) {
                    continue;
                }
                for (int y = 0; y < SIDE; y++) {
                    int row = shady[SIDE * c + y];
                    int toLeft = row << 1 | 1;
                    int toRight = row >> 1 | 1 << SIDE - 1;
                    int up = y > 0 ? shady[SIDE * c + y - 1] : WHOLE_ROW;
                    int down = y < SIDE - 1 ? shady[SIDE * c + y + 1] : WHOLE_ROW;
                    before[SIDE * c + y] = row & toLeft & toRight & up & down;
                }
            }
        }

        private void manMoves(int from, int reach) {
            for (int c = 0; c < CELLS; c++) {
                if (apart(c, from) > reach) {
                    continue;
                }
                for (int y = 0; y < SIDE; y++) {
                    int row = 0;
                    for (int way = 0; way <= NO_STEP; way++) {
                        int cell = cellAfter(c, way);
                        if (cell >= 0 && apart(cell, from) <= reach) {
                            row |= shady[SIDE * cell + y];
                        }
                    }
                    before[SIDE * c + y] = row;
                }
            }
        }

        private static int apart(int a, int b) {
            return Math.abs(a % SIDE - b % SIDE) + Math.abs(a / SIDE - b / SIDE);
        }
    }

    /** Changes by mend(), the latest last; those behind done were undone. */
    private static final class Changes {
        private static final int MOST = 40, WORDS = 4;

        private final People people;
        private final int[] kept = new int[MOST * WORDS];
        private int done;
        private int all;

        Changes(People people) {
            this.people = people;
        }

        void add(int number, int what, int v) {
            if (done >= MOST) {
                System.arraycopy(kept, WORDS, kept, 0, (MOST - 1) * WORDS);
                done = MOST - 1;
            }
            int at = done * WORDS;
            kept[at] = number;
            kept[at + 1] = what;
            kept[at + 2] = people.get(number, what);
            kept[at + 3] = v;
            done++;
            all = done;
            people.set(number, what, v);
        }

        int takeBack() {
            if (done <= 0) {
                return STATE;
            }
            done--;
            int at = done * WORDS;
            people.set(kept[at], kept[at + 1], kept[at + 2]);
            return done;
        }

        int doAgain() {
            if (done >= all) {
                return STATE;
            }
            int at = done * WORDS;
            people.set(kept[at], kept[at + 1], kept[at + 3]);
            done++;
            return all - done;
        }
    }

    /** What is done in deed, what led() tells of it, and the image. */
    private static final class Deeds {
        private static final int PASSED = 0, STEPPED = 1, BIRDS = 2, PAID = 3, MISSED = 4, HOUR = 5;

        private final People people;
        private final int[] ledger = new int[6];
        private boolean hasImage;
        private int imageMen;
        private int imageSitters;
        private final int[] imageCells = new int[MEN];
        private final int[] imageArms = new int[MEN];
        private final int[] imageSeats = new int[SITTERS];
        private final int[] imageLedger = new int[6];

        Deeds(People people) {
            this.people = people;
        }

        int hour() {
            return ledger[HOUR];
        }

        int told(int what) {
            return what >= 0 && what < ledger.length ? ledger[what] : BAD;
        }

        void hourPasses(int missed) {
            ledger[PASSED]++;
            ledger[PAID] += people.payOf(people.everyone());
            ledger[MISSED] += missed;
            ledger[HOUR] = (ledger[HOUR] + 1) % HOURS;
        }

        int manSteps(int man, int way) {
            int cell = cellAfter(people.get(man, CELL), way);
            if (cell < 0) {
                return STATE;
            }
            people.set(man, CELL, cell);
            ledger[STEPPED]++;
            return cell;
        }

        int birdGetsIn(int man) {
            int arms = Math.min(4, people.get(man, ARMS) + 1);
            people.set(man, ARMS, arms);
            ledger[BIRDS]++;
            return arms;
        }

        int keepImage() {
            hasImage = true;
            imageMen = people.men;
            imageSitters = people.sitters;
            for (int m = 0; m < imageMen; m++) {
                imageCells[m] = people.get(m, CELL);
                imageArms[m] = people.get(m, ARMS);
            }
            for (int s = 0; s < imageSitters; s++) {
                imageSeats[s] = people.get(s, SEAT);
            }
            System.arraycopy(ledger, 0, imageLedger, 0, ledger.length);
            return ledger[PASSED];
        }

        int layBack() {
            if (!hasImage) {
                return STATE;
            }
            for (int m = 0; m < imageMen; m++) {
                people.set(m, CELL, imageCells[m]);
                people.set(m, ARMS, imageArms[m]);
            }
            for (int s = 0; s < imageSitters; s++) {
                people.set(s, SEAT, imageSeats[s]);
            }
            System.arraycopy(imageLedger, 0, ledger, 0, ledger.length);
            return ledger[PASSED];
        }
    }

    /** Bodies of trees, and acts that come from their own kind or from above. */
    private static final class Trees {
        private static final int MOST = 50, KEPT = 24, ACTS = 4, DEEPEST = 40;
        private static final int STANDS = 0, SWAYS = 1, LETS = 2, TELLS = 3;
        private static final int[] ABOVE = {-1, 0, 0, 2, 1, 3, 0, 4};
        /** By kind and act, the body of its own; 0: it has none. */
        private static final int[] OWN = {
            1, 10, 11, 2,
            20, 0, 0, 0,
            0, 30, 0, 0,
            0, 41, 40, 0,
            0, 0, 50, 0,
            0, 0, 0, 60,
            70, 0, 0, 0,
            0, 80, 0, 81};

        private final int[] kinds = new int[MOST];
        private int planted;
        private final int[] ranFirst = new int[KEPT];
        private int ran;
        private int self;

        int plant(int kind) {
            if (planted >= MOST) {
                return FULL;
            }
            kinds[planted] = kind;
            planted++;
            return planted - 1;
        }

        int kindOf(int tree) {
            return tree >= 0 && tree < planted ? kinds[tree] : -1;
        }

        boolean isUnder(int kind, int top) {
            int k = kind;
            for (int i = 0; i < ABOVE.length && k >= 0 && k < ABOVE.length; i++) {
                if (k == top) {
                    return true;
                }
                k = ABOVE[k];
            }
            return false;
        }

        int perform(int tree, int deed, int x) {
            ran = 0;
            if (tree < 0 || tree >= planted || deed < 0 || deed >= ACTS) {
                return 0;
            }
            self = tree;
            return own(deed, x, 0);
        }

        int traced(int i) {
            return i >= 0 && i < ran && i < KEPT ? ranFirst[i] : BAD;
        }

        private int own(int deed, int x, int depth) {
            return from(kindOf(self), deed, x, depth);
        }

        private int over(int kind, int deed, int x, int depth) {
            return kind >= 0 && kind < ABOVE.length ? from(ABOVE[kind], deed, x, depth) : 0;
        }

        private int from(int kind, int deed, int x, int depth) {
            int k = kind;
            for (int i = 0; i < ABOVE.length && k >= 0 && k < ABOVE.length; i++) {
                int found = OWN[ACTS * k + deed];
                if (found != 0) {
                    return depth < DEEPEST ? run(found, k, x, depth + 1) : 0;
                }
                k = ABOVE[k];
            }
            return 0;
        }

        /** kind is the body's own, which its super looks above. */
        private int run(int number, int kind, int x, int depth) {
            if (ran < KEPT) {
                ranFirst[ran] = number;
            }
            ran++;
            switch (number) {
                case 1: return x + self;
                case 10: return own(STANDS, x, depth) * 2;
                case 11: return x ^ self;
                case 2: return own(SWAYS, x, depth) - own(LETS, 1, depth);
                case 20: return over(kind, STANDS, x, depth) + 3;
                case 30: return -over(kind, SWAYS, x, depth);
                case 40: return over(kind, LETS, x, depth) * 3;
                case 41: return over(kind, SWAYS, x + 1, depth);
                case 50: return over(kind, LETS, x, depth) - own(STANDS, 2, depth);
                case 60: return over(kind, TELLS, x, depth) ^ 5;
                case 70: return over(kind, STANDS, x, depth) * 2;
                case 80: return over(kind, SWAYS, x, depth) + own(LETS, 2, depth);
                case 81: return over(kind, TELLS, x, depth) - 1;
                default: return 0;
            }
        }
    }

    /** A place that holds nothing, a tree, or a row; its memory is used again for each new row. */
    private static final class Shelf {
        private static final int LONGEST = 60;

        private static final int NO_TREE = -1, NO_ROW = -1;

        private int tree = NO_TREE;
        private int sort = NO_ROW;
        private int size;
        private final long[] elements = new long[LONGEST];

        /** NO_TREE lets it hold nothing. */
        void holdTree(int number) {
            tree = number;
            sort = NO_ROW;
            size = 0;
        }

        void holdRow(int newSort, int n) {
            tree = NO_TREE;
            sort = newSort;
            size = Math.max(0, Math.min(LONGEST, n));
            Arrays.fill(elements, 0L);
        }

        boolean isEmpty() {
            return tree == NO_TREE && sort == NO_ROW;
        }

        boolean isRowOf(int wanted) {
            return sort == wanted;
        }

        int tree() {
            return tree;
        }

        int size() {
            return size;
        }

        int refusalAs(int wanted) {
            return isEmpty() ? NOTHING_THERE : isRowOf(wanted) ? 0 : OTHER_KIND;
        }

        int refusalAt(int i) {
            if (isEmpty()) {
                return NOTHING_THERE;
            }
            if (sort == NO_ROW) {
                return OTHER_KIND;
            }
            return i < 0 || i >= size ? NO_PLACE : 0;
        }

        long get(int i) {
            return i >= 0 && i < size ? elements[i] : 0;
        }

        void set(int i, long v) {
            if (i >= 0 && i < size) {
                elements[i] = narrowed(v);
            }
        }

        int copyTo(int i, Shelf other, int j, int n) {
            if (isEmpty() || other.isEmpty()) {
                return NOTHING_THERE;
            }
            if (sort == NO_ROW || sort != other.sort) {
                return OTHER_KIND;
            }
            if (i < 0 || j < 0 || n < 0 || i > size - n || j > other.size - n) {
                return NO_PLACE;
            }
            System.arraycopy(elements, i, other.elements, j, n);
            return n;
        }

        private long narrowed(long v) {
            switch (sort) {
                case 0: return (byte) v;
                case 1: return (short) v;
                case 2: return (int) v;
                case 3: return v;
                default: return v != 0 ? 1 : 0;
            }
        }
    }
}
