/** Promises 9 to 12: the sun, shade in thought, who is served. */
final class ShadeEdges extends Edges {
    private static final int[] LONG = {4, 3, 2, 1, 1, 1, 2, 2, 1, 2, 3, 4};

    ShadeEdges(Sentences document) {
        super(document);
    }

    @Override
    void run() {
        hoursOfTheSun();
        slant();
        lengths();
        oakIsLonger();
        bothSides();
        overTheEdge();
        notHisOwn();
        twelveAtMost();
        leastOrMore();
        cellAndHour();
        byAllOrOne();
        shadeIsBad();
        nobodyElse();
        byOneInThought();
        haveAny();
        darkest();
        walkAnswers();
        walkIsBad();
        whichHours();
        missesOfOne();
        servedAnswers();
        servedIsBad();
        servedOnes();
        atAnswers();
        atIsBad();
    }

    private static boolean inShade(int man, int kind, int arms, int hour, int cell) {
        int right = cell % 12 - man % 12;
        int down = cell / 12 - man / 12;
        int steps = hour <= 3 ? -right : hour <= 7 ? -down : right;
        int across = Math.abs(hour <= 3 || hour >= 8 ? down : right);
        return steps >= 1 && steps <= LONG[hour] + (kind == 2 ? 1 : 0) && across <= arms;
    }

    /** Every cell of the walk at every hour: in his shade, or not. */
    private void everyCell(int man, int kind, int arms) {
        for (int hour = 0; hour < 12; hour++) {
            HiredShade x = new HiredShade();
            law(x, "7");
            x.man(man, kind);
            x.mend(0, 2, arms);
            for (int cell = 0; cell < 144; cell++) {
                int want = inShade(man, kind, arms, hour, cell) ? 7 : 0;
                due("man in " + man + ", kind " + kind + ", arms " + arms + ", cell " + cell + ", hour " + hour,
                    x.shade(100 * cell + hour, 0), want);
            }
        }
    }

    private void hoursOfTheSun() {
        says(9, "THE SUN: at HOUR h (0 .. 11) a man's shade falls one step, as often as LONG, by SLANT:");
        HiredShade x = lawful("1", 65);
        due("the first hour", x.shade(6400, 0), 1);
        due("the last hour", x.shade(6611, 0), 1);
        due("an hour beyond", x.shade(6612, 0), BAD);
        due("an hour ahead", x.shade(-1, 0), BAD);
    }

    private void slant() {
        says(9, "HOURS 0 to 3: to the left (X less), 4 to 7: up (Y less), 8 to 11: to the right (X more);");
        HiredShade x = lawful("1", 65);
        for (int hour = 0; hour < 12; hour++) {
            due("left at " + hour, x.shade(6400 + hour, 0), hour <= 3 ? 1 : 0);
            due("up at " + hour, x.shade(5300 + hour, 0), hour >= 4 && hour <= 7 ? 1 : 0);
            due("right at " + hour, x.shade(6600 + hour, 0), hour >= 8 ? 1 : 0);
            due("never down, at " + hour, x.shade(7700 + hour, 0), 0);
        }
    }

    private void lengths() {
        says(9, "LONG: 4 at 0, 3, 2, 1 at 1, 2, 3; 1, 1, 2, 2 at 4 .. 7; 1, 2, 3, 4 at 8 .. 11;");
        HiredShade x = lawful("s", 65);
        for (int hour = 0; hour < 12; hour++) {
            int way = hour <= 3 ? -1 : hour <= 7 ? -12 : 1;
            int last = 65 + way * LONG[hour];
            due("the last step at " + hour, x.shade(100 * last + hour, 0), LONG[hour]);
            due("the first beyond at " + hour, x.shade(100 * (last + way) + hour, 0), 0);
        }
    }

    private void oakIsLonger() {
        says(9, "and once more for an oak.");
        HiredShade x = lawful("s");
        x.man(65, 1);
        x.man(65, 2);
        for (int hour = 0; hour < 12; hour++) {
            int way = hour <= 3 ? -1 : hour <= 7 ? -12 : 1;
            int last = 65 + way * (LONG[hour] + 1);
            due("the oak's last step at " + hour, x.shade(100 * last + hour, 1), LONG[hour] + 1);
            due("an elm's shade is no longer, at " + hour, x.shade(100 * last + hour, 0), 0);
            if (hour != 0) {
                due("the first beyond at " + hour, x.shade(100 * (last + way) + hour, 1), 0);
            }
        }
        due("over the edge", x.shade(5900, 1), 0);
    }

    private void bothSides() {
        says(9, "THE SHADE of a man is all CELLS from 1 to LONG steps from him that way, and those to both sides of them "
            + "(across it) no farther than ARMS;");
        for (int arms = 0; arms <= 4; arms++) {
            everyCell(65, 0, arms);
            everyCell(78, 2, arms);
        }
    }

    private void overTheEdge() {
        says(9, "all CELLS from 1 to LONG steps from him that way");
        for (int man : new int[] {0, 11, 132, 143, 12, 23, 60, 71, 5, 137}) {
            everyCell(man, 2, 4);
        }
    }

    private void notHisOwn() {
        says(9, "not his own.");
        HiredShade x = lawful("12", 65);
        x.mend(0, 2, 4);
        for (int hour = 0; hour < 12; hour++) {
            due("hour " + hour, x.shade(6500 + hour, 0), 0);
        }
        x.man(65, 2);
        due("nor by another in the same cell", x.shade(6500, -1), 0);
        x.man(66, 2);
        due("but by one beside him", x.shade(6500, -1), 12);
    }

    private void twelveAtMost() {
        says(9, "A CELL at an HOUR has as much shade as all MEN together give (12 at most).");
        HiredShade x = lawful("m?6;5", 65, 65);
        due("11", x.shade(6400, -1), 11);
        law(x, "6");
        due("12", x.shade(6400, -1), 12);
        law(x, "m?6;7");
        due("12 of 13", x.shade(6400, -1), 12);
        for (int i = 0; i < 5; i++) {
            x.man(65, 0);
        }
        law(x, "12");
        due("12 of 84", x.shade(6400, -1), 12);
        due("by one", x.shade(6400, 6), 12);
        law(x, "1");
        due("7 of seven", x.shade(6400, -1), 7);
    }

    private void leastOrMore() {
        says(11, "A SITTER is SERVED at an HOUR, if his CELL has LEAST or more.");
        HiredShade x = lawful("6", 65);
        x.sitter(64, 1);
        for (int least = 1; least <= 12; least++) {
            x.mend(0, 6, least);
            due("6, and least " + least, x.at(0, 0), least <= 6 ? 1 : 0);
        }
        x.man(65, 0);
        due("12, and least 12", x.at(0, 0), 1);
        x.man(65, 0);
        due("18, and least 12", x.at(0, 0), 1);
    }

    private void cellAndHour() {
        says(9, "men, sitters (ch: 100 times the CELL, and the HOUR; mh: 100 times the man, and the HOUR).");
        HiredShade x = lawful("1", 65);
        int[] bad = {-1, -100, -6400, LOWEST, HIGHEST, 12, 13, 99, 6412, 6499, 14312, 14399, 14400, 14401};
        for (int ch : bad) {
            due("ch " + ch, x.shade(ch, -1), BAD);
            due("ch " + ch, x.shade(ch, 0), BAD);
        }
        int[] good = {0, 11, 100, 111, 14300, 14311};
        for (int ch : good) {
            due("ch " + ch, x.shade(ch, -1), 0);
        }
        due("cell 64 at 0", x.shade(6400, -1), 1);
        due("cell 66 at 11", x.shade(6611, -1), 1);
        x.sitter(64, 1);
        int[] wrong = {-1, -100, LOWEST, HIGHEST, 12, 99, 100, 111};
        for (int mh : wrong) {
            due("mh " + mh, x.share(mh, 5), BAD);
        }
        due("man 0 at 0", x.share(0, 5), 5);
        due("man 0 at 11", x.share(11, 5), 0);
    }

    private void byAllOrOne() {
        says(9, "How much shade a CELL has (man -1: by all).");
        HiredShade x = new HiredShade();
        due("nobody is there", x.shade(6400, -1), 0);
        law(x, "m+1");
        for (int i = 0; i < 4; i++) {
            x.man(65, 0);
        }
        due("by all", x.shade(6400, -1), 10);
        for (int man = 0; man < 4; man++) {
            due("by one", x.shade(6400, man), man + 1);
        }
    }

    private void shadeIsBad() {
        says(9, "BAD.");
        HiredShade x = new HiredShade();
        due("no man", x.shade(6400, 0), BAD);
        for (int men = 1; men <= 7; men++) {
            x.man(65, 0);
            due("the last man", x.shade(6400, men - 1), 5);
            due("behind him", x.shade(6400, men), BAD);
        }
        due("man -2", x.shade(6400, -2), BAD);
        due("the lowest", x.shade(6400, LOWEST), BAD);
        due("the highest", x.shade(6400, HIGHEST), BAD);
    }

    /** Cell 0 is where a man would be of whom nothing is told. */
    private void nobodyElse() {
        says(9, "by one of MEN;");
        HiredShade x = lawful("12");
        for (int men = 0; men <= 7; men++) {
            if (men == 1) {
                x.sitter(1, 4095);
            }
            due("no other man gives any: " + men + " men", x.walk(8, 0), 0);
            due("served by no other", x.at(8, 0), 0);
            due("misses", x.at(12, 0), men == 0 ? 0 : 12);
            due("drawn", x.drawn(5, 100, -1), men == 0 ? 0 : 12);
            x.man(143, 0);
        }
        due("nor has he a share", x.share(8, 100), 0);
    }

    private void byOneInThought() {
        says(9, "IN THOUGHT: how much shade a CELL has at an HOUR; by one of MEN;");
        HiredShade x = lawful("8", 65, 65);
        due("by one", x.shade(6400, 0), 8);
        due("by both", x.shade(6400, -1), 12);
        due("no hour passed", x.led(0), 0);
        due("nobody stepped", x.of(0, 0), 65);
    }

    private void haveAny() {
        says(10, "how many CELLS have any;");
        HiredShade x = lawful("0", 65);
        due("in his shade, but none has any", x.walk(0, 0), 0);
        law(x, "-1");
        due("less than none", x.walk(0, 0), 0);
        law(x, "s=1&!a");
        due("one has", x.walk(0, 0), 1);
        law(x, "1");
        due("all of his shade", x.walk(0, 0), 12);
        x.man(65, 0);
        due("a cell counts once", x.walk(0, 0), 12);
        x.mend(0, 0, 0);
        x.mend(1, 0, 0);
        due("over the edge there is none", x.walk(0, 0), 0);
        HiredShade first = lawful("1", 1);
        first.mend(0, 2, 0);
        due("the first cell counts", first.walk(0, 0), 1);
        first.mend(0, 0, 142);
        due("the last cell counts", first.walk(8, 0), 1);
        first.mend(0, 2, 1);
        first.mend(0, 0, 133);
        due("none below the last row counts", first.walk(0, 0), 2);
    }

    private void darkest() {
        says(10, "the darkest CELL (of like ones the least).");
        HiredShade x = lawful("7", 65);
        due("all are like", x.walk(0, 1), 12 * 4 + 1);
        law(x, "s=1?7;6");
        due("three are like", x.walk(0, 1), 12 * 4 + 4);
        law(x, "s=1&!a?7;6");
        due("one is darkest", x.walk(0, 1), 64);
        law(x, "0");
        due("none has any: the least of all", x.walk(0, 1), 0);
        law(x, "12");
        x.man(77, 0);
        due("12 of 24 are as 12 of 12", x.walk(0, 1), 12 * 4 + 1);
        law(x, "5");
        due("10 are darker than 5", x.walk(0, 1), 12 * 5 + 1);
        HiredShade last = lawful("1", 142);
        last.mend(0, 2, 0);
        due("the last cell of all", last.walk(8, 1), 143);
        HiredShade first = lawful("s", 2);
        first.mend(0, 2, 0);
        due("the first cell of all", first.walk(0, 1), 0);
        // Both would reach the row below the last: there it would be darkest.
        HiredShade low = lawful("m=a-1?5;0", 133, 121);
        low.mend(1, 2, 2);
        due("no cell below the last row", low.walk(0, 1), 12 * 8);
    }

    private void walkAnswers() {
        says(10, "How many CELLS have any (what 0), the darkest (1).");
        HiredShade x = lawful("1", 65);
        due("what 0, the first hour", x.walk(0, 0), 12);
        due("what 1, the first hour", x.walk(0, 1), 49);
        due("what 0, the last hour", x.walk(11, 0), 12);
        due("what 1, the last hour", x.walk(11, 1), 54);
    }

    private void walkIsBad() {
        says(10, "BAD.");
        HiredShade x = lawful("1", 65);
        for (int hour : beyond(0, 11)) {
            due("hour " + hour, x.walk(hour, 0), BAD);
            due("hour " + hour, x.walk(hour, 1), BAD);
        }
        for (int what : beyond(0, 1)) {
            due("what " + what, x.walk(0, what), BAD);
        }
    }

    private void whichHours() {
        says(11, "Whether a SITTER is SERVED; at which HOURS (bits);");
        HiredShade x = lawful("h+1", 65);
        x.sitter(64, 0);
        x.sitter(66, 4095);
        x.mend(0, 6, 2);
        x.mend(1, 6, 12);
        due("whether he wants them or not", x.served(0, 0), 0b1110);
        due("only the last", x.served(1, 0), 1 << 11);
        law(x, "12");
        due("the first, too", x.served(0, 0), 0b1111);
        due("none", x.served(x.sitter(65, 4095), 0), 0);
    }

    private void missesOfOne() {
        says(11, "at how many of those he WANTS he is not (MISSES); of all.");
        HiredShade x = lawful("12", 65);
        x.sitter(64, 0);
        due("who wants none", x.served(0, 1), 0);
        x.mend(0, 5, 0b1111);
        due("who has all he wants", x.served(0, 1), 0);
        x.mend(0, 5, 4095);
        due("who wants all", x.served(0, 1), 8);
        x.mend(0, 5, 4095 - 15);
        due("who has none he wants", x.served(0, 1), 8);
        due("of all", x.at(12, 0), 8);
        x.sitter(65, 4095);
        due("of another", x.served(1, 1), 12);
        due("of all", x.at(12, 0), 20);
        for (int i = 0; i < 6; i++) {
            x.sitter(0, 4095);
        }
        x.goes(0, 0);
        x.mend(0, 5, 4095);
        due("of eight who miss all", x.at(12, 0), 96);
    }

    private void servedAnswers() {
        says(11, "At which HOURS he is SERVED (what 0), MISSES (1).");
        HiredShade x = lawful("12", 65);
        x.sitter(64, 0b111);
        x.sitter(66, 0b111);
        due("hours", x.served(0, 0), 0b1111);
        due("misses", x.served(0, 1), 0);
        due("hours", x.served(1, 0), 0xf00);
        due("misses", x.served(1, 1), 3);
    }

    private void servedIsBad() {
        says(11, "BAD.");
        HiredShade x = new HiredShade();
        due("no sitter", x.served(0, 0), BAD);
        for (int sitters = 1; sitters <= 8; sitters++) {
            x.sitter(64, 1);
            due("the last", x.served(sitters - 1, 1), 1);
            due("behind him", x.served(sitters, 1), BAD);
        }
        for (int sitter : beyond(0, 7)) {
            due("sitter " + sitter, x.served(sitter, 0), BAD);
        }
        for (int what : beyond(0, 1)) {
            due("what " + what, x.served(0, what), BAD);
        }
    }

    private void servedOnes() {
        says(12, "SERVED ones (bits) at an HOUR; those who WANT it then, and are not.");
        HiredShade x = lawful("12", 65);
        for (int i = 0; i < 8; i++) {
            x.sitter(i % 2 == 0 ? 64 : 65, i < 4 ? 1 : 0);
        }
        due("served, whether they want it or not", x.at(0, 0), 0b01010101);
        due("who want it, and are not", x.at(0, 1), 0b00001010);
        x.mend(0, 0, 66);
        due("all", x.at(0, 0), 255);
        due("none", x.at(0, 1), 0);
        x.mend(0, 0, 0);
        due("none", x.at(0, 0), 0);
        due("all who want it", x.at(0, 1), 15);
    }

    private void atAnswers() {
        says(12, "SERVED ones at an HOUR (what 0), those who WANT it and are not (1): bits; MISSES of all (hour 12, what 0).");
        HiredShade x = lawful("12", 65);
        x.sitter(64, 4095);
        x.sitter(66, 4095);
        due("the first hour", x.at(0, 0), 1);
        due("the first hour", x.at(0, 1), 2);
        due("the last hour", x.at(11, 0), 2);
        due("the last hour", x.at(11, 1), 1);
        due("behind it: of all", x.at(12, 0), 16);
    }

    private void atIsBad() {
        says(12, "BAD.");
        HiredShade x = new HiredShade();
        x.sitter(0, 1);
        due("hour 12, what 1", x.at(12, 1), BAD);
        due("hour 12, what 2", x.at(12, 2), BAD);
        due("hour 12, what -1", x.at(12, -1), BAD);
        due("hour 13", x.at(13, 0), BAD);
        due("hour -1", x.at(-1, 0), BAD);
        due("the lowest", x.at(LOWEST, 0), BAD);
        due("the highest", x.at(HIGHEST, 0), BAD);
        for (int what : beyond(0, 1)) {
            due("what " + what, x.at(0, what), BAD);
        }
    }
}
