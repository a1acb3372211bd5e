/** Promises 23 and 24: he and she by turns, clouds by draws. */
final class TurnEdges extends Edges {
    TurnEdges(Sentences document) {
        super(document);
    }

    @Override
    void run() {
        movesByTurns();
        manAtTheEdge();
        sitterAtTheEdge();
        outByOneWay();
        likeFirstSteps();
        othersStay();
        turnsAnswers();
        turnsIsBad();
        draws();
        cloudsAndMen();
        noMen();
        daysAndClouds();
        drawnAnswers();
        drawnIsBad();
    }

    /** A man without arms, and a sitter who is served at hour 4 from the cell below him alone. */
    private static HiredShade below(int man, int seat) {
        HiredShade x = lawful("12", man);
        x.mend(0, 2, 0);
        x.sitter(seat, 0);
        return x;
    }

    /** What hour 4 answers for n 1 to 4: whether, and the first step. */
    private void turns(HiredShade x, int... dues) {
        for (int n = 1; n <= 4; n++) {
            due("whether, n " + n, x.byTurns(0, 40 + n, 0), dues[n - 1] / 10);
            due("first step, n " + n, x.byTurns(0, 40 + n, 1), dues[n - 1] % 10);
        }
    }

    private void movesByTurns() {
        says(23, "BY TURNS: at an HOUR, a man and a SITTER move by turns, one step or none each, n times (1 .. 4), the man first: "
            + "he wants the SITTER to be SERVED behind it, the SITTER the sun: whether it is (1, 0), if both do their best;");
        // The man moves last at 1 and 3, the sitter at 2 and 4, who then steps aside.
        turns(below(76, 64), 14, 4, 14, 4);
        turns(below(88, 64), 10, 4, 10, 4);
        turns(below(75, 64), 11, 4, 11, 4);
        turns(below(64, 64), 12, 4, 12, 4);
        turns(below(77, 64), 13, 4, 13, 4);
        turns(below(100, 64), 4, 4, 4, 4);
        turns(below(87, 64), 4, 4, 4, 4);
        HiredShade wide = lawful("12", 68);
        wide.mend(0, 2, 4);
        wide.sitter(66, 0);
        for (int n = 1; n <= 4; n++) {
            due("he can't get out, n " + n, wide.byTurns(0, n, 0), 1);
            due("none first, n " + n, wide.byTurns(0, n, 1), 4);
        }
        HiredShade never = lawful("5", 68);
        never.mend(0, 2, 4);
        never.sitter(66, 0);
        due("less than his least", never.byTurns(0, 1, 0), 0);
        never.mend(0, 6, 5);
        due("his least", never.byTurns(0, 1, 0), 1);
    }

    private void manAtTheEdge() {
        says(23, "one step or none each");
        // The cell that a wrong count would lead to lies below the sitter's.
        turns(below(72, 59), 4, 4, 4, 4);
        turns(below(71, 60), 4, 4, 4, 4);
        turns(below(5, 125), 4, 4, 4, 4);
        HiredShade down = lawful("12", 143);
        down.mend(0, 2, 0);
        down.sitter(10, 0);
        due("down over the edge", down.byTurns(0, 1, 0), 0);
        due("none first", down.byTurns(0, 1, 1), 4);
        turns(below(132, 120), 14, 4, 4, 4);
        turns(below(143, 131), 14, 4, 4, 4);
        turns(below(131, 131), 12, 4, 4, 4);
        turns(below(12, 0), 14, 4, 14, 4);
        turns(below(23, 11), 14, 4, 14, 4);
    }

    private void sitterAtTheEdge() {
        says(23, "the SITTER the sun");
        int[] men = {9, 132 + 9, 2, 132 + 2};
        int[] seats = {11, 143, 0, 132};
        int[] hours = {8, 8, 2, 2};
        for (int i = 0; i < men.length; i++) {
            HiredShade x = lawful("12");
            x.man(men[i], 2);
            x.mend(0, 2, 1);
            x.sitter(seats[i], 0);
            int hn = 10 * hours[i] + 2;
            due("he can't go over the edge, from " + seats[i], x.byTurns(0, hn, 0), 1);
            x.mend(0, 2, 0);
            due("he goes off the row, from " + seats[i], x.byTurns(0, hn, 0), 0);
        }
        HiredShade inner = lawful("12");
        inner.man(12 * 5 + 3, 2);
        inner.sitter(12 * 5 + 6, 0);
        due("he would go on, out of the shade", inner.byTurns(0, 92, 0), 1);
        due("but the man follows first", inner.byTurns(0, 92, 1), 1);
        inner.goes(0, 12 * 5 + 8);
        due("he is ahead too far", inner.byTurns(0, 92, 0), 0);
    }

    private void outByOneWay() {
        says(23, "one step or none each");
        outBy("left", 60, 61, 92, 4);
        outBy("right", 71, 70, 12, 4);
        outBy("down", 132 + 5, 120 + 5, 62, 4);
        outBy("up", 65, 29, 62, 10);
        outBy("up into the first row", 26, 16, 92, 10);
        outBy("down into the last row", 110, 124, 92, 12);
        outBy("right, off the first columns", 48, 25, 62, 11);
        // The man's second move, from the first cell and to it.
        outBy("nowhere, from the first cell", 0, 2, 83, 14);
        outBy("nowhere, to the first cell", 1, 2, 83, 14);
    }

    /** An oak with arms 1: whether the sitter gets out that way, or the man has to follow first. */
    private void outBy(String way, int man, int seat, int hn, int want) {
        HiredShade x = lawful("12");
        x.man(man, 2);
        x.sitter(seat, 0);
        due("out by " + way + ": whether", x.byTurns(0, hn, 0), want / 10);
        due("out by " + way + ": first step", x.byTurns(0, hn, 1), want % 10);
    }

    private void likeFirstSteps() {
        says(23, "his best first step (0 .. 4; of like ones none first (4), then the least).");
        HiredShade x = lawful("a=1?12;0", 65);
        x.sitter(64, 0);
        due("up or down: up", x.byTurns(0, 1, 1), 0);
        x.goes(0, 53);
        due("right or left at 4: right", x.byTurns(0, 41, 1), 1);
        law(x, "a=1?0;12");
        due("none first", x.byTurns(0, 41, 1), 4);
        law(x, "0");
        due("all are lost: none first", x.byTurns(0, 41, 1), 4);
        law(x, "12");
        due("none, right and left are won: none first", x.byTurns(0, 41, 1), 4);
        HiredShade y = lawful("s=2?12;0", 65);
        y.sitter(64, 0);
        due("right alone", y.byTurns(0, 1, 1), 1);
        y.goes(0, 62);
        due("left alone", y.byTurns(0, 1, 1), 3);
    }

    private void othersStay() {
        says(23, "if both do their best");
        HiredShade x = lawful("6", 65, 65);
        x.sitter(64, 0);
        x.mend(0, 6, 12);
        due("both men are needed", x.byTurns(0, 1, 0), 1);
        due("the second", x.byTurns(10, 1, 0), 1);
        x.mend(1, 0, 0);
        due("the first alone", x.byTurns(0, 1, 0), 0);
        x.mend(0, 6, 6);
        due("the second is too far off", x.byTurns(10, 1, 0), 1);
        due("but the first is there", x.byTurns(10, 1, 1), 4);
        HiredShade far = lawful("12", 143, 133);
        far.sitter(132, 0);
        due("the other serves him, at the edge", far.byTurns(0, 1, 0), 1);
        due("none first", far.byTurns(0, 1, 1), 4);
        due("he goes right, out of it", far.byTurns(0, 2, 0), 0);
        due("nobody moved in deed", x.of(0, 0), 65);
        due("nobody moved in deed", x.of(1, 0), 0);
        due("nobody moved in deed", x.of(0, 4), 64);
        due("no steps", x.led(1), 0);
    }

    private void turnsAnswers() {
        says(23, "BY TURNS (ms: 10 times the man, and the SITTER; hn: 10 times the HOUR, and n): whether (what 0), "
            + "his best first step (1).");
        HiredShade x = lawful("m=6?12;0", 65, 65, 65, 65, 65, 65, 65);
        for (int i = 0; i < 8; i++) {
            x.sitter(i == 7 ? 70 : 0, 0);
        }
        due("the last man, the last sitter, the last hour", x.byTurns(67, 111, 0), 1);
        due("his first step", x.byTurns(67, 111, 1), 1);
        due("another man", x.byTurns(57, 111, 0), 0);
        due("another sitter", x.byTurns(66, 111, 0), 0);
        due("another hour", x.byTurns(67, 1, 0), 0);
    }

    private void turnsIsBad() {
        says(23, "BAD.");
        HiredShade x = lawful("12", 65, 65, 65, 65, 65, 65);
        for (int i = 0; i < 7; i++) {
            x.sitter(64, 0);
        }
        for (int ms : new int[] {-1, -10, 7, 8, 9, 17, 57, 60, 66, 70, 100, LOWEST, HIGHEST}) {
            due("ms " + ms, x.byTurns(ms, 1, 0), BAD);
        }
        due("the last", x.byTurns(56, 1, 0), 1);
        x.man(65, 0);
        x.sitter(64, 0);
        due("the last", x.byTurns(67, 1, 0), 1);
        for (int ms : new int[] {8, 9, 68, 69, 70, 77}) {
            due("ms " + ms, x.byTurns(ms, 1, 0), BAD);
        }
        for (int hn : new int[] {-1, -9, -10, 0, 5, 6, 9, 10, 15, 110, 115, 119, 120, 121, 124, 1001, LOWEST, HIGHEST}) {
            due("hn " + hn, x.byTurns(0, hn, 0), BAD);
        }
        for (int what : beyond(0, 1)) {
            due("what " + what, x.byTurns(0, 1, what), BAD);
        }
        due("no men", new HiredShade().byTurns(0, 1, 0), BAD);
    }

    /** How many of so many draws are of an hour that one misses; by numbers without a sign. */
    private static int missed(int seed, int days, int clouds, int men, boolean[][] missesWithout) {
        long z = seed & 0xffffffffL;
        int misses = 0;
        for (int draw = 0; draw < 12 * days; draw++) {
            z = (z * 1103515245L + 12345L) & 0xffffffffL;
            if (z / 256 % 12 < clouds) {
                continue;
            }
            int away = men == 0 ? 0 : (int) (z / 65536 % men);
            misses += missesWithout[away][draw % 12] ? 1 : 0;
        }
        return misses;
    }

    private static final int[] SEEDS = {0, 1, -1, 7, 12345, -987654321, LOWEST, HIGHEST};

    private void draws() {
        says(24, "DRAWN: n days (1 .. 30) by a SEED: z = z * 1103515245 + 12345 (an int; SEED at first) ahead of each of 12 HOURS:");
        for (int seed : SEEDS) {
            HiredShade x = lawful("m+1", 65, 65, 65);
            x.sitter(64, 15);
            x.mend(0, 6, 4);
            boolean[][] without = new boolean[3][12];
            for (int hour = 0; hour < 4; hour++) {
                without[2][hour] = true;
            }
            for (int days : new int[] {1, 2, 29, 30}) {
                for (int clouds : new int[] {0, 1, 5, 11, 12}) {
                    due("seed " + seed + ", days " + days + ", clouds " + clouds,
                        x.drawn(seed, 100 * days + clouds, 0), missed(seed, days, clouds, 3, without));
                }
            }
        }
    }

    private void cloudsAndMen() {
        says(24, "it is cloudy (all are SERVED), if (z >>> 8) % 12 is below CLOUDS (0 .. 12, told); else a man m, "
            + "(z >>> 16) % how many, is away for that HOUR");
        for (int men = 1; men <= 7; men++) {
            HiredShade x = lawful("m=" + (men - 1) + "?12;0");
            for (int i = 0; i < men; i++) {
                x.man(65, 0);
            }
            x.sitter(64, 4095);
            boolean[][] without = new boolean[men][12];
            for (int away = 0; away < men; away++) {
                for (int hour = 0; hour < 12; hour++) {
                    without[away][hour] = hour > 3 || away == men - 1;
                }
            }
            for (int seed : SEEDS) {
                for (int clouds = 0; clouds <= 12; clouds += 3) {
                    due(men + " men, seed " + seed + ", clouds " + clouds, x.drawn(seed, 500 + clouds, 0),
                        missed(seed, 5, clouds, men, without));
                }
            }
        }
    }

    private void noMen() {
        says(24, "(no MEN: none): MISSES of all SITTERS, all together; of one.");
        HiredShade x = new HiredShade();
        due("no sitters either", x.drawn(1, 3000, -1), 0);
        for (int i = 0; i < 8; i++) {
            x.sitter(0, i == 7 ? 1 : 4095);
        }
        due("no clouds: all", x.drawn(1, 3000, -1), 30 * (7 * 12 + 1));
        due("no clouds: one", x.drawn(1, 3000, 0), 30 * 12);
        due("no clouds: another", x.drawn(1, 3000, 7), 30);
        due("clouds only: all", x.drawn(1, 3012, -1), 0);
        boolean[][] always = new boolean[1][12];
        java.util.Arrays.fill(always[0], true);
        for (int seed : SEEDS) {
            due("some clouds, seed " + seed, x.drawn(seed, 3006, 0), missed(seed, 30, 6, 0, always));
        }
    }

    private void daysAndClouds() {
        says(24, "DRAWN (nc: 100 n, and CLOUDS):");
        HiredShade x = new HiredShade();
        x.sitter(0, 4095);
        due("the fewest days, no clouds", x.drawn(5, 100, -1), 12);
        due("the fewest days, most clouds", x.drawn(5, 112, -1), 0);
        due("the most days, no clouds", x.drawn(5, 3000, -1), 360);
        due("the most days, most clouds", x.drawn(5, 3012, -1), 0);
        x.passes();
        due("whatever hour it is", x.drawn(5, 100, -1), 12);
    }

    private void drawnAnswers() {
        says(24, "MISSES of a SITTER (0 on), of all (-1).");
        HiredShade x = new HiredShade();
        x.sitter(0, 4095);
        x.sitter(0, 3);
        due("the first", x.drawn(9, 100, 0), 12);
        due("the second", x.drawn(9, 100, 1), 2);
        due("all", x.drawn(9, 100, -1), 14);
        due("no hour passed", x.led(0), 0);
        due("none was missed in deed", x.led(4), 0);
    }

    private void drawnIsBad() {
        says(24, "BAD.");
        HiredShade x = new HiredShade();
        due("no sitter", x.drawn(0, 100, 0), BAD);
        due("but all", x.drawn(0, 100, -1), 0);
        x.sitter(0, 0);
        for (int sitter : new int[] {-2, 1, LOWEST, HIGHEST}) {
            due("sitter " + sitter, x.drawn(0, 100, sitter), BAD);
        }
        for (int nc : new int[] {-1, -100, 0, 12, 99, 113, 199, 3013, 3099, 3100, 3112, LOWEST, HIGHEST}) {
            due("nc " + nc, x.drawn(0, nc, -1), BAD);
        }
    }
}
