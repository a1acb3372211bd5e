/** Promises 34 to 36: bodies of trees, acts that come from above, the trace. */
final class TreeEdges extends Edges {
    private static final int STANDS = 0, SWAYS = 1, LETS = 2, TELLS = 3;
    private static final int TREE = 0, BIRCH = 1, ELM = 2, OAK = 3, NEST = 4, COAT = 5, LEAF = 6, BOY = 7;

    TreeEdges(Sentences document) {
        super(document);
    }

    @Override
    void run() {
        fiftyBodies();
        bodyKinds();
        bodyAnswers();
        bodyIsBadOrFull();
        actsThatWrap();
        itsNumber();
        treeStands();
        treeSways();
        treeLets();
        treeTells();
        birchStands();
        elmSways();
        oakLets();
        oakSways();
        nestLets();
        coatTells();
        leafStands();
        boySways();
        boyTells();
        ownOrNextAbove();
        superFromAbove();
        traceOfTheLatest();
        firstAreKept();
        actAnswers();
        noSuchAct();
        traceAnswers();
        traceIsBad();
    }

    /** An act of a tree with a number, of a kind; behind it what is due: the bodies that ran. */
    private void act(int kind, int number, int act, int x, int want, int... ran) {
        HiredShade s = new HiredShade();
        for (int i = 0; i < number; i++) {
            s.body(TREE);
        }
        s.body(kind);
        String call = "act " + act + " of kind " + kind + ", number " + number + ", with " + x;
        due(call, s.act(number, act, x), want);
        due("how many ran by " + call, s.count(5), ran.length);
        for (int i = 0; i < ran.length; i++) {
            due("trace " + i + " of " + call, s.trace(i), ran[i]);
        }
        due("behind the trace", s.trace(ran.length), BAD);
    }

    private static final int[] NUMBERS = {0, 1, 49};
    private static final int[] XS = {0, 1, -1, 5, 0x3fffffff, 0x40000000, LOWEST, HIGHEST};

    private void fiftyBodies() {
        says(34, "TREES' ways are kept by call as BODIES 0 .. 49, of KINDS:");
        HiredShade x = new HiredShade();
        for (int i = 0; i < 50; i++) {
            due("no such body yet", x.keep(0, i), BAD);
            due("as they come", x.body(i % 8), i);
            due("it is there", x.keep(0, i), 1);
            due("its kind", x.taken(0, 0), i % 8);
        }
        due("none behind the last", x.keep(0, 50), BAD);
    }

    private void bodyKinds() {
        says(34, "0 TREE; 1 BIRCH under TREE; 2 ELM under TREE; 3 OAK under ELM; 4 NEST under BIRCH; 5 COAT under OAK; "
            + "6 LEAF under TREE; 7 BOY under NEST.");
        int[] above = {-1, TREE, TREE, ELM, BIRCH, OAK, TREE, NEST};
        HiredShade x = new HiredShade();
        for (int kind = 0; kind < 8; kind++) {
            due("kind " + kind, x.body(kind), kind);
            x.keep(0, kind);
            boolean[] under = new boolean[8];
            for (int k = kind; k >= 0; k = above[k]) {
                under[k] = true;
            }
            for (int k = 0; k < 8; k++) {
                due("kind " + kind + " under " + k, x.taken(0, k), under[k] ? kind : OTHER_KIND);
            }
        }
    }

    private void bodyAnswers() {
        says(34, "A TREE of a KIND (0 .. 7) is kept: its number.");
        HiredShade x = new HiredShade();
        due("the last kind", x.body(7), 0);
        due("the first kind", x.body(0), 1);
        due("the same again", x.body(0), 2);
        due("how many", x.count(4), 3);
    }

    private void bodyIsBadOrFull() {
        says(34, "BAD, FULL.");
        HiredShade x = new HiredShade();
        for (int kind : beyond(0, 7)) {
            due("kind " + kind, x.body(kind), BAD);
            due("none is kept", x.count(4), 0);
        }
        for (int i = 0; i < 49; i++) {
            x.body(0);
        }
        due("the fiftieth", x.body(7), 49);
        due("the fifty-first", x.body(7), FULL);
        due("how many", x.count(4), 50);
        for (int kind : beyond(0, 7)) {
            due("BAD is named first: kind " + kind, x.body(kind), BAD);
        }
    }

    private void actsThatWrap() {
        says(35, "ACTS with x (an int that wraps): 0 stands, 1 sways, 2 lets, 3 tells;");
        act(TREE, 1, STANDS, HIGHEST, LOWEST, 1);
        act(TREE, 1, STANDS, -1, 0, 1);
        act(TREE, 0, SWAYS, 0x40000000, LOWEST, 10, 1);
        act(TREE, 0, SWAYS, LOWEST, 0, 10, 1);
        act(TREE, 1, LETS, HIGHEST, HIGHEST - 1, 11);
        act(TREE, 0, TELLS, LOWEST, -1, 2, 10, 1, 11);
        act(TREE, 0, TELLS, 0x40000000, HIGHEST, 2, 10, 1, 11);
        act(ELM, 0, SWAYS, 0x40000000, LOWEST, 30, 10, 1);
        act(BIRCH, 0, STANDS, HIGHEST, LOWEST + 2, 20, 1);
        act(OAK, 0, SWAYS, HIGHEST, 0, 41, 30, 10, 1);
        act(OAK, 0, LETS, 0x60000000, 0x20000000, 40, 11);
    }

    private void itsNumber() {
        says(35, "n its number.");
        for (int n : NUMBERS) {
            act(TREE, n, STANDS, 100, 100 + n, 1);
            act(TREE, n, LETS, 100, 100 ^ n, 11);
        }
    }

    private void treeStands() {
        says(35, "BODIES of acts: STANDS (an interface of TREE): 1 stands: x + n.");
        for (int n : NUMBERS) {
            for (int x : XS) {
                for (int kind : new int[] {TREE, ELM, OAK, COAT}) {
                    act(kind, n, STANDS, x, x + n, 1);
                }
            }
        }
    }

    private void treeSways() {
        says(35, "TREE: 10 sways: stands(x) * 2.");
        for (int n : NUMBERS) {
            for (int x : XS) {
                act(TREE, n, SWAYS, x, (x + n) * 2, 10, 1);
                act(BIRCH, n, SWAYS, x, (x + n + 3) * 2, 10, 20, 1);
                act(NEST, n, SWAYS, x, (x + n + 3) * 2, 10, 20, 1);
                act(LEAF, n, SWAYS, x, (x + n) * 2 * 2, 10, 70, 1);
            }
        }
    }

    private void treeLets() {
        says(35, "11 lets: x ^ n.");
        for (int n : NUMBERS) {
            for (int x : XS) {
                for (int kind : new int[] {TREE, BIRCH, ELM, LEAF}) {
                    act(kind, n, LETS, x, x ^ n, 11);
                }
            }
        }
    }

    private void treeTells() {
        says(35, "TELLS (of TREE): 2 tells: sways(x) - lets(1).");
        for (int n : NUMBERS) {
            for (int x : XS) {
                act(TREE, n, TELLS, x, (x + n) * 2 - (1 ^ n), 2, 10, 1, 11);
                act(BIRCH, n, TELLS, x, (x + n + 3) * 2 - (1 ^ n), 2, 10, 20, 1, 11);
                act(ELM, n, TELLS, x, -((x + n) * 2) - (1 ^ n), 2, 30, 10, 1, 11);
                act(OAK, n, TELLS, x, -((x + 1 + n) * 2) - (1 ^ n) * 3, 2, 41, 30, 10, 1, 40, 11);
                act(NEST, n, TELLS, x, (x + n + 3) * 2 - ((1 ^ n) - (n + 5)), 2, 10, 20, 1, 50, 11, 20, 1);
                act(LEAF, n, TELLS, x, (x + n) * 4 - (1 ^ n), 2, 10, 70, 1, 11);
            }
        }
    }

    private void birchStands() {
        says(35, "BIRCH: 20 stands: super.stands(x) + 3.");
        for (int n : NUMBERS) {
            for (int x : XS) {
                act(BIRCH, n, STANDS, x, x + n + 3, 20, 1);
                act(NEST, n, STANDS, x, x + n + 3, 20, 1);
                act(BOY, n, STANDS, x, x + n + 3, 20, 1);
            }
        }
    }

    private void elmSways() {
        says(35, "ELM: 30 sways: -super.sways(x).");
        for (int n : NUMBERS) {
            for (int x : XS) {
                act(ELM, n, SWAYS, x, -((x + n) * 2), 30, 10, 1);
            }
        }
    }

    private void oakLets() {
        says(35, "OAK: 40 lets: super.lets(x) * 3.");
        for (int n : NUMBERS) {
            for (int x : XS) {
                act(OAK, n, LETS, x, (x ^ n) * 3, 40, 11);
                act(COAT, n, LETS, x, (x ^ n) * 3, 40, 11);
            }
        }
    }

    private void oakSways() {
        says(35, "41 sways: super.sways(x + 1).");
        for (int n : NUMBERS) {
            for (int x : XS) {
                act(OAK, n, SWAYS, x, -((x + 1 + n) * 2), 41, 30, 10, 1);
                act(COAT, n, SWAYS, x, -((x + 1 + n) * 2), 41, 30, 10, 1);
            }
        }
    }

    private void nestLets() {
        says(35, "NEST: 50 lets: super.lets(x) - stands(2).");
        for (int n : NUMBERS) {
            for (int x : XS) {
                act(NEST, n, LETS, x, (x ^ n) - (2 + n + 3), 50, 11, 20, 1);
                act(BOY, n, LETS, x, (x ^ n) - (2 + n + 3), 50, 11, 20, 1);
            }
        }
    }

    private void coatTells() {
        says(35, "COAT: 60 tells: super.tells(x) ^ 5.");
        for (int n : NUMBERS) {
            for (int x : XS) {
                int tells = -((x + 1 + n) * 2) - (1 ^ n) * 3;
                act(COAT, n, TELLS, x, tells ^ 5, 60, 2, 41, 30, 10, 1, 40, 11);
            }
        }
    }

    private void leafStands() {
        says(35, "LEAF: 70 stands: super.stands(x) * 2.");
        for (int n : NUMBERS) {
            for (int x : XS) {
                act(LEAF, n, STANDS, x, (x + n) * 2, 70, 1);
            }
        }
    }

    private void boySways() {
        says(35, "BOY: 80 sways: super.sways(x) + lets(2).");
        for (int n : NUMBERS) {
            for (int x : XS) {
                int lets = (2 ^ n) - (n + 5);
                act(BOY, n, SWAYS, x, (x + n + 3) * 2 + lets, 80, 10, 20, 1, 50, 11, 20, 1);
            }
        }
    }

    private void boyTells() {
        says(35, "81 tells: super.tells(x) - 1.");
        for (int n : NUMBERS) {
            for (int x : XS) {
                int sways = (x + n + 3) * 2 + (2 ^ n) - (n + 5);
                int lets = (1 ^ n) - (n + 5);
                act(BOY, n, TELLS, x, sways - lets - 1, 81, 2, 80, 10, 20, 1, 50, 11, 20, 1, 50, 11, 20, 1);
            }
        }
    }

    private void ownOrNextAbove() {
        says(35, "stands(..) and so on: the body of its own KIND, or of the next KIND above that has one;");
        act(BOY, 2, SWAYS, 3, 16 + (0 - 7), 80, 10, 20, 1, 50, 11, 20, 1);
        act(COAT, 2, STANDS, 3, 5, 1);
        act(NEST, 2, TELLS, 3, 16 - (3 - 7), 2, 10, 20, 1, 50, 11, 20, 1);
    }

    private void superFromAbove() {
        says(35, "super: from the KIND above the body's on.");
        // The body's kind counts, not the tree's: a coat's 41 is an oak's, whose super is the elm's 30.
        act(COAT, 2, SWAYS, 3, -12, 41, 30, 10, 1);
        act(BOY, 2, LETS, 3, 1 - 7, 50, 11, 20, 1);
        act(BOY, 2, STANDS, 3, 8, 20, 1);
    }

    private void traceOfTheLatest() {
        says(36, "THE TRACE: numbers of the bodies that ran in the latest act(), as they began;");
        HiredShade x = new HiredShade();
        x.body(BOY);
        x.body(TREE);
        due("none ran yet", x.trace(0), BAD);
        x.act(0, TELLS, 1);
        due("the first began first", x.trace(0), 81);
        due("then what it called", x.trace(1), 2);
        x.act(1, STANDS, 1);
        due("the latest", x.trace(0), 1);
        due("nothing of the one ahead of it", x.trace(1), BAD);
    }

    private void firstAreKept() {
        says(36, "the first 24 are kept.");
        HiredShade x = new HiredShade();
        x.body(BOY);
        x.act(0, TELLS, 1);
        due("the longest act there is", x.count(5), 14);
        due("its last body", x.trace(13), 1);
        due("behind it", x.trace(14), BAD);
        due("the last place", x.trace(23), BAD);
        due("beyond it", x.trace(24), BAD);
    }

    private void actAnswers() {
        says(35, "An ACT (0 .. 3) of a TREE with x.");
        HiredShade x = new HiredShade();
        for (int i = 0; i < 50; i++) {
            x.body(TREE);
        }
        int[] dues = {54, 108, 5 ^ 49, 108 - (1 ^ 49)};
        for (int act = 0; act < 4; act++) {
            due("act " + act + " of the last tree", x.act(49, act, 5), dues[act]);
        }
        due("of the first tree", x.act(0, 0, 5), 5);
    }

    private void noSuchAct() {
        says(35, "0, and no TRACE then: no such TREE, ACT.");
        HiredShade x = new HiredShade();
        due("no tree is kept", x.act(0, 0, 5), 0);
        x.body(TREE);
        x.body(TREE);
        for (int tree : beyond(0, 1)) {
            x.act(1, TELLS, 5);
            due("tree " + tree, x.act(tree, 0, 5), 0);
            due("none ran", x.count(5), 0);
            due("no trace", x.trace(0), BAD);
        }
        for (int act : beyond(0, 3)) {
            x.act(1, TELLS, 5);
            due("act " + act, x.act(0, act, 5), 0);
            due("none ran", x.count(5), 0);
            due("no trace", x.trace(0), BAD);
        }
        due("trees are as they were", x.count(4), 2);
        due("and act", x.act(1, 0, 5), 6);
    }

    private void traceAnswers() {
        says(36, "THE TRACE's i-th body.");
        HiredShade x = new HiredShade();
        x.body(TREE);
        x.act(0, TELLS, 5);
        int[] dues = {2, 10, 1, 11};
        for (int i = 0; i < 4; i++) {
            due("from 0 on: " + i, x.trace(i), dues[i]);
            due("asking changes nothing: " + i, x.trace(i), dues[i]);
        }
    }

    private void traceIsBad() {
        says(36, "BAD.");
        HiredShade x = new HiredShade();
        for (int i : new int[] {0, 1, 23, 24}) {
            due("no act yet: " + i, x.trace(i), BAD);
        }
        x.body(TREE);
        x.act(0, TELLS, 5);
        for (int i : beyond(0, 3)) {
            due("place " + i, x.trace(i), BAD);
        }
    }
}
