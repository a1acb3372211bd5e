/** Promises 13 to 16: the fewest, the cheapest, rosters, one more, a step. */
final class ChoiceEdges extends Edges {
    ChoiceEdges(Sentences document) {
        super(document);
    }

    @Override
    void run() {
        fewest();
        fewestOfNone();
        cheapest();
        needed();
        enoughAnswers();
        enoughIsBad();
        rosters();
        rosterAnswers();
        rosterIsBad();
        oneMore();
        oneMoreAtTheEdge();
        oneMoreAnswers();
        oneMoreIsBad();
        step();
        stepOverTheEdge();
        stepAnswers();
        stepIsBad();
    }

    /** Seven men in a cell give 1, 2, .. 7 to the sitter beside them, who wants hour 0 alone. */
    private static HiredShade seven(int least) {
        HiredShade x = lawful("m+1", 65, 65, 65, 65, 65, 65, 65);
        x.sitter(64, 1);
        x.mend(0, 6, least);
        return x;
    }

    private static void payAll(HiredShade x, int... pays) {
        for (int man = 0; man < pays.length; man++) {
            x.mend(man, 3, pays[man]);
        }
    }

    private void fewest() {
        says(13, "FEWEST: the fewest of MEN (the others go home) by whom no SITTER MISSES an HOUR more than by all: how many; "
            + "who (bits; of like ones the least).");
        // 8 needs two: 3 and 5 are fewer bits than 2 and 6, or 1 and 7; and so on.
        int[] who = {1, 2, 4, 8, 16, 32, 64, 4 | 16, 8 | 16, 8 | 32, 16 | 32, 16 | 64};
        for (int least = 1; least <= 12; least++) {
            HiredShade x = seven(least);
            due("who, least " + least, x.enough(1), who[least - 1]);
            due("how many, least " + least, x.enough(0), least <= 7 ? 1 : 2);
        }
        HiredShade all = lawful("3", 65, 65, 65, 65);
        all.sitter(64, 1);
        all.mend(0, 6, 12);
        due("all are needed: how many", all.enough(0), 4);
        due("all are needed: who", all.enough(1), 15);
        all.sitter(66, 1 << 8);
        due("another who is served by two", all.enough(1), 15);
        all.mend(0, 6, 3);
        all.mend(1, 6, 6);
        due("he wants two", all.enough(1), 3);
    }

    private void fewestOfNone() {
        says(13, "by whom no SITTER MISSES an HOUR more than by all");
        HiredShade x = new HiredShade();
        for (int what = 0; what < 5; what++) {
            due("no men, no sitters: what " + what, x.enough(what), 0);
        }
        x.sitter(64, 4095);
        for (int what = 0; what < 5; what++) {
            due("no men: what " + what, x.enough(what), 0);
        }
        HiredShade y = lawful("5", 65, 65);
        for (int what = 0; what < 5; what++) {
            due("no sitters: what " + what, y.enough(what), 0);
        }
        y.sitter(64, 1);
        y.mend(0, 6, 11);
        for (int what = 0; what < 5; what++) {
            due("he misses it by all, too: what " + what, y.enough(what), 0);
        }
        y.mend(0, 6, 10);
        due("he misses it by one more", y.enough(1), 3);
        y.mend(0, 5, 0);
        due("he wants none", y.enough(1), 0);
        y.mend(0, 5, 1 << 4);
        due("he wants an hour at which nobody serves him", y.enough(1), 0);
    }

    private void cheapest() {
        says(13, "CHEAPEST: those of least PAY together by whom none does (of like ones fewest, then least bits): who; PAY.");
        HiredShade x = seven(10);
        due("all alike: two", x.enough(2), 8 | 32);
        due("all alike: pay", x.enough(3), 20);
        payAll(x, 0, 0, 0, 0, 1, 1, 1);
        due("four for nothing", x.enough(2), 15);
        due("their pay", x.enough(3), 0);
        payAll(x, 0, 0, 0, 0, 0, 0, 0);
        due("of like ones fewest, then least bits", x.enough(2), 8 | 32);
        due("their pay", x.enough(3), 0);
        payAll(x, 5, 5, 5, 5, 99, 20, 20);
        due("four for 20 cost less than two for 25", x.enough(2), 15);
        payAll(x, 5, 5, 6, 5, 99, 16, 99);
        due("of like pay fewest: two for 21, four for 21", x.enough(2), 8 | 32);
        due("their pay", x.enough(3), 21);
        payAll(x, 99, 99, 99, 99, 99, 99, 99);
        due("the most pay", x.enough(3), 198);
        HiredShade one = lawful("m=2?6;3", 65, 65, 65);
        one.sitter(64, 1);
        payAll(one, 3, 4, 7);
        due("of like pay fewest: one for 7, two for 7", one.enough(2), 4);
        payAll(one, 3, 4, 8);
        due("two for 7 cost less than one for 8", one.enough(2), 3);
        payAll(one, 3, 4, 6);
        due("one for 6 costs less than two for 7", one.enough(2), 4);
        HiredShade all = lawful("2", 65, 65, 65, 65, 65, 65, 65);
        all.sitter(64, 1);
        all.mend(0, 6, 12);
        payAll(all, 99, 99, 99, 99, 99, 99, 98);
        due("six of seven", all.enough(2), 127 - 32);
        due("their pay", all.enough(3), 5 * 99 + 98);
    }

    private void needed() {
        says(13, "NEEDED: who (bits), gone alone, makes some SITTER MISS more.");
        HiredShade x = seven(12);
        due("nobody is", x.enough(4), 0);
        HiredShade y = lawful("m?6;7", 65, 65);
        y.sitter(64, 1);
        y.mend(0, 6, 12);
        due("13: both are", y.enough(4), 3);
        y.mend(0, 6, 7);
        due("7 is had by the first alone", y.enough(4), 1);
        y.mend(0, 6, 6);
        due("6 by either", y.enough(4), 0);
        HiredShade seven = lawful("s", 65, 65, 65, 65, 65, 65, 65);
        seven.sitter(64, 1);
        seven.mend(0, 6, 7);
        due("all seven", seven.enough(4), 127);
        seven.mend(6, 0, 66);
        due("8: he who gives 2", seven.enough(4), 64);
        seven.mend(0, 6, 8);
        due("8: all seven", seven.enough(4), 127);
    }

    private void enoughAnswers() {
        says(13, "FEWEST: how many (what 0), who (1); CHEAPEST: who (2), PAY (3); NEEDED (4).");
        HiredShade x = lawful("m=2?6;m?2;4", 65, 65, 65);
        x.sitter(64, 1);
        payAll(x, 3, 4, 50);
        int[] dues = {1, 4, 3, 7, 0};
        for (int what = 0; what < 5; what++) {
            due("what " + what, x.enough(what), dues[what]);
        }
        x.mend(0, 6, 9);
        due("needed", x.enough(4), 1 | 4);
    }

    private void enoughIsBad() {
        says(13, "BAD.");
        HiredShade x = seven(12);
        for (int what : beyond(0, 4)) {
            due("what " + what, x.enough(what), BAD);
        }
    }

    private void rosters() {
        says(14, "ROSTER: for each HOUR by itself the cheapest of MEN by whom all who WANT it then are SERVED as by all: "
            + "PAY of all HOURS together; who (bits) at an HOUR (of like ones the least).");
        HiredShade x = seven(10);
        due("two for 20", x.roster(0), 8 | 32);
        due("nobody wants it", x.roster(1), 0);
        due("pay", x.roster(12), 20);
        payAll(x, 0, 0, 0, 0, 0, 0, 0);
        due("of like pay the least bits, not the fewest", x.roster(0), 15);
        due("pay", x.roster(12), 0);
        payAll(x, 5, 5, 6, 5, 99, 16, 99);
        due("of like pay the least bits", x.roster(0), 15);
        due("pay", x.roster(12), 21);
        HiredShade y = lawful("12", 65, 67);
        y.sitter(64, 4095);
        y.mend(1, 3, 3);
        int[] dues = {2, 2, 1, 1, 0, 0, 0, 0, 0, 0, 0, 0};
        for (int hour = 0; hour < 12; hour++) {
            due("at " + hour + " by itself", y.roster(hour), dues[hour]);
        }
        due("pay of all hours", y.roster(12), 3 + 3 + 10 + 10);
        y.mend(0, 5, 0b1000);
        due("one hour's", y.roster(12), 10);
        y.mend(0, 4, 60);
        due("he misses it by all, too", y.roster(3), 0);
        due("nothing", y.roster(12), 0);
    }

    private void rosterAnswers() {
        says(14, "ROSTER: PAY (hour 12), who at an HOUR (0 .. 11).");
        HiredShade x = lawful("12", 65);
        x.mend(0, 3, 99);
        x.sitter(64, 4095);
        x.sitter(66, 4095);
        due("the first hour", x.roster(0), 1);
        due("the last hour", x.roster(11), 1);
        due("pay", x.roster(12), 8 * 99);
        HiredShade empty = new HiredShade();
        due("nobody", empty.roster(0), 0);
        due("nobody's pay", empty.roster(12), 0);
    }

    private void rosterIsBad() {
        says(14, "BAD.");
        HiredShade x = seven(12);
        for (int hour : beyond(0, 12)) {
            due("hour " + hour, x.roster(hour), BAD);
        }
    }

    private void oneMore() {
        says(15, "ONE MORE: a man of a KIND (ARMS 1) in which CELL (of like ones the least) would make all MISSES fewest: "
            + "which; how many then.");
        HiredShade x = lawful("12");
        x.sitter(64, 1 << 4);
        due("no farther across than 1", x.oneMore(0, 0), 12 * 6 + 3);
        due("how many then", x.oneMore(0, 1), 0);
        x.mend(0, 5, 1 << 8);
        due("elm: one step", x.oneMore(1, 0), 12 * 4 + 3);
        due("oak: two steps", x.oneMore(2, 0), 12 * 4 + 2);
        x.man(63, 0);
        due("he is served now: of like ones the least", x.oneMore(0, 0), 0);
        due("how many then", x.oneMore(0, 1), 0);
        x.mend(0, 5, 4095);
        due("the four hours from the right and the four from below", x.oneMore(0, 0), 12 * 6 + 5);
        due("the man who is there serves the other four", x.oneMore(0, 1), 0);
        law(x, "m?12;0");
        due("he who is there gives none, but one more gives eight", x.oneMore(0, 1), 4);
        due("from below and from the left, the least", x.oneMore(0, 0), 12 * 6 + 3);
        law(x, "6");
        x.mend(0, 6, 12);
        x.mend(0, 5, 1 << 8);
        due("both together", x.oneMore(0, 1), 0);
        x.mend(0, 0, 0);
        due("one is not enough", x.oneMore(0, 1), 1);
        due("of like ones the least", x.oneMore(0, 0), 0);
        HiredShade eight = lawful("12");
        for (int i = 0; i < 8; i++) {
            eight.sitter(i == 7 ? 64 : 143, 1 << 11);
        }
        due("for seven of eight", eight.oneMore(0, 0), 12 * 10 + 7);
        due("how many then", eight.oneMore(0, 1), 1);
        eight.man(142, 0);
        due("now for the last of eight", eight.oneMore(0, 0), 12 * 4);
        due("how many then", eight.oneMore(0, 1), 0);
        HiredShade y = lawful("6", 66);
        y.sitter(64, 1);
        y.mend(0, 6, 12);
        due("with him who is there, at hour 0", y.oneMore(0, 0), 12 * 4 + 5);
        due("how many then", y.oneMore(0, 1), 0);
    }

    private void oneMoreAtTheEdge() {
        says(15, "in which CELL (of like ones the least)");
        HiredShade x = lawful("12");
        x.sitter(0, 1 << 8);
        due("there is no cell on his left", x.oneMore(2, 1), 1);
        due("so the least", x.oneMore(2, 0), 0);
        x.mend(0, 4, 143);
        due("the last cell but one, or that above it", x.oneMore(0, 0), 130);
        due("how many then", x.oneMore(0, 1), 0);
        x.mend(0, 5, 1);
        due("there is no cell on his right", x.oneMore(2, 1), 1);
        x.mend(0, 4, 142);
        due("above the last", x.oneMore(0, 0), 131);
        x.mend(0, 4, 132);
        x.mend(0, 5, 1 << 4);
        due("there is no cell below", x.oneMore(2, 1), 1);
        x.mend(0, 4, 120);
        due("the corner below", x.oneMore(2, 0), 132);
        for (int i = 0; i < 7; i++) {
            x.man(0, 0);
        }
        due("beside seven men, too", x.oneMore(2, 0), 132);
        due("they are seven still", x.count(0), 7);
    }

    private void oneMoreAnswers() {
        says(15, "ONE MORE of a KIND: which (what 0), how many (1).");
        HiredShade x = new HiredShade();
        for (int kind = 0; kind <= 2; kind++) {
            due("nobody wants any: which", x.oneMore(kind, 0), 0);
            due("nobody wants any: how many", x.oneMore(kind, 1), 0);
        }
        x.sitter(64, 1);
        x.mend(0, 6, 9);
        due("birch: none", x.oneMore(0, 0), 0);
        due("birch: he misses it", x.oneMore(0, 1), 1);
        due("oak: beside him", x.oneMore(2, 0), 65);
        due("oak: he does not", x.oneMore(2, 1), 0);
    }

    private void oneMoreIsBad() {
        says(15, "BAD.");
        HiredShade x = new HiredShade();
        for (int kind : beyond(0, 2)) {
            due("kind " + kind, x.oneMore(kind, 0), BAD);
        }
        for (int what : beyond(0, 1)) {
            due("what " + what, x.oneMore(0, what), BAD);
        }
    }

    /** A man without arms; the sitter is served at hour 4 from the cell below him alone. */
    private static HiredShade below(int man, int seat) {
        HiredShade x = lawful("12", man);
        x.mend(0, 2, 0);
        x.sitter(seat, 1 << 4);
        return x;
    }

    private void step() {
        says(16, "STEP: which step of one of MEN (0 up, 1 right, 2 down, 3 left, 4 none) makes all MISSES fewest "
            + "(of like ones none first, then the least): which; how many then.");
        int[] cells = {88, 75, 64, 77, 76};
        for (int way = 0; way <= 4; way++) {
            HiredShade x = below(cells[way], 64);
            due("from " + cells[way], x.step(0, 0), way);
            due("how many then", x.step(0, 1), 0);
            due("he is where he was", x.of(0, 0), cells[way]);
        }
        HiredShade far = below(90, 64);
        due("none helps: none", far.step(0, 0), 4);
        due("how many then", far.step(0, 1), 1);
        HiredShade two = below(76, 63);
        two.sitter(65, 1 << 4);
        due("right or left: the least", two.step(0, 0), 1);
        due("one of two", two.step(0, 1), 1);
        two.sitter(64, 1 << 4);
        due("one here, one there: none first", two.step(0, 0), 4);
        due("one of three", two.step(0, 1), 2);
        two.sitter(63, 1 << 4);
        due("two there", two.step(0, 0), 3);
        due("two of four", two.step(0, 1), 2);
        HiredShade four = below(65, 52);
        four.sitter(54, 1 << 4);
        four.sitter(41, 1 << 4);
        due("up, right or left: the least", four.step(0, 0), 0);
        HiredShade both = lawful("6", 76, 88);
        both.mend(0, 2, 0);
        both.mend(1, 2, 0);
        both.sitter(64, 1 << 4);
        both.mend(0, 6, 12);
        due("with the other, just his least", both.step(1, 0), 0);
        due("how many then", both.step(1, 1), 0);
        HiredShade first = lawful("6", 66, 77);
        first.mend(0, 2, 0);
        first.mend(1, 2, 0);
        first.sitter(64, 1);
        first.mend(0, 6, 12);
        due("with the other, at hour 0", first.step(1, 0), 0);
        HiredShade leaves = lawful("12", 143, 65);
        leaves.mend(1, 2, 0);
        leaves.sitter(64, 1);
        leaves.sitter(52, 1);
        leaves.sitter(52, 1);
        due("he leaves one for two", leaves.step(1, 0), 0);
        due("the one he leaves misses it", leaves.step(1, 1), 1);
        HiredShade nobody = lawful("12", 65);
        due("nobody wants any: none", nobody.step(0, 0), 4);
        due("how many then", nobody.step(0, 1), 0);
    }

    private void stepOverTheEdge() {
        says(16, "which step of one of MEN (0 up, 1 right, 2 down, 3 left, 4 none)");
        // The cell that a wrong count would lead to lies below the sitter's.
        HiredShade left = below(72, 71 - 12);
        due("left over the edge", left.step(0, 0), 4);
        due("how many then", left.step(0, 1), 1);
        HiredShade right = below(71, 72 - 12);
        due("right over the edge", right.step(0, 0), 4);
        HiredShade up = below(5, 132 + 5 - 12);
        due("up over the edge", up.step(0, 0), 4);
        HiredShade top = below(0, 120);
        due("nor round it", top.step(0, 0), 4);
        HiredShade down = lawful("12", 143);
        down.mend(0, 2, 0);
        down.sitter(10, 1);
        due("down over the edge", down.step(0, 0), 4);
        for (int corner : new int[] {0, 11, 132, 143}) {
            HiredShade x = lawful("12", corner);
            x.sitter(65, 4095);
            due("in a corner: none", x.step(0, 0), 4);
            due("how many then", x.step(0, 1), 12);
        }
    }

    private void stepAnswers() {
        says(16, "STEP: which (what 0), how many (1).");
        HiredShade x = below(88, 64);
        x.man(77, 0);
        x.mend(1, 2, 0);
        due("which, of the first", x.step(0, 0), 0);
        due("which, of the second", x.step(1, 0), 3);
        due("how many then", x.step(1, 1), 0);
        law(x, "m?0;12");
        due("the second gives none", x.step(1, 0), 4);
        due("how many then", x.step(1, 1), 1);
    }

    private void stepIsBad() {
        says(16, "BAD.");
        HiredShade x = new HiredShade();
        due("no man", x.step(0, 0), BAD);
        for (int men = 1; men <= 7; men++) {
            x.man(65, 0);
            due("the last", x.step(men - 1, 0), 4);
            due("behind him", x.step(men, 0), BAD);
        }
        for (int man : beyond(0, 6)) {
            due("man " + man, x.step(man, 0), BAD);
        }
        for (int what : beyond(0, 1)) {
            due("what " + what, x.step(0, what), BAD);
        }
    }
}
