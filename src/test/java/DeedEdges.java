/** Promises 25 to 33: hours, steps, birds, the image, changes. */
final class DeedEdges extends Edges {
    DeedEdges(Sentences document) {
        super(document);
    }

    @Override
    void run() {
        hoursPass();
        passesAnswers();
        ways();
        stepsAnswers();
        stepsIsBad();
        stepsOverTheEdge();
        birds();
        birdAnswers();
        birdIsBad();
        goesElsewhere();
        goesAnswers();
        goesIsBad();
        led();
        ledAnswers();
        ledIsBad();
        imageKeeps();
        imageOfAll();
        imageAnswers();
        backAnswers();
        cameSince();
        noImage();
        allNumbersOfMend();
        sameNumberIsNone();
        latestFirst();
        noOtherCameBehind();
        fortyAreKept();
        deedsAreNone();
        undoAnswers();
        nothingToUndo();
        redoAnswers();
        nothingToRedo();
    }

    private void hoursPass() {
        says(25, "IN DEED: it is HOUR 0; an HOUR passes (11 goes to 0);");
        HiredShade x = new HiredShade();
        due("it is hour 0", x.led(5), 0);
        for (int hour = 1; hour <= 36; hour++) {
            x.passes();
            due("the hour", x.led(5), hour % 12);
            due("hours", x.led(0), hour);
        }
    }

    private void passesAnswers() {
        says(25, "An HOUR passes: MISSES in it (of those who WANT it).");
        HiredShade x = lawful("12", 65);
        for (int i = 0; i < 8; i++) {
            x.sitter(i == 0 ? 64 : 0, i < 6 ? 0b100000000001 : 0);
        }
        due("hour 0: five of six who want it", x.passes(), 5);
        for (int hour = 1; hour <= 10; hour++) {
            due("nobody wants hour " + hour, x.passes(), 0);
        }
        due("hour 11: six", x.passes(), 6);
        due("hour 0 again: five", x.passes(), 5);
        for (int i = 0; i < 8; i++) {
            x.mend(i, 5, 4095);
        }
        x.mend(0, 0, 0);
        due("all eight", x.passes(), 8);
        due("nobody is there", new HiredShade().passes(), 0);
    }

    private void ways() {
        says(26, "a man STEPS (0 .. 3);");
        int[] dues = {53, 66, 77, 64};
        for (int way = 0; way <= 3; way++) {
            HiredShade x = new HiredShade();
            x.man(65, 0);
            due("way " + way, x.steps(0, way), dues[way]);
            due("he is there", x.of(0, 0), dues[way]);
        }
        HiredShade x = new HiredShade();
        x.man(65, 0);
        for (int way : beyond(0, 3)) {
            due("way " + way, x.steps(0, way), BAD);
        }
        due("he is where he was", x.of(0, 0), 65);
        due("no steps", x.led(1), 0);
    }

    private void stepsAnswers() {
        says(26, "A man STEPS: his CELL then.");
        HiredShade x = new HiredShade();
        x.man(12, 0);
        x.man(12, 0);
        due("into the first cell", x.steps(1, 0), 0);
        due("the other is where he was", x.of(0, 0), 12);
        x.mend(1, 0, 142);
        due("into the last cell", x.steps(1, 1), 143);
        due("steps", x.led(1), 2);
    }

    private void stepsIsBad() {
        says(26, "BAD;");
        HiredShade x = new HiredShade();
        due("no man", x.steps(0, 0), BAD);
        for (int men = 1; men <= 7; men++) {
            x.man(65, 0);
            due("the last", x.steps(men - 1, 0), 53);
            due("behind him", x.steps(men, 0), BAD);
        }
        for (int man : beyond(0, 6)) {
            due("man " + man, x.steps(man, 0), BAD);
        }
        x.mend(0, 0, 0);
        due("BAD is named ahead of STATE", x.steps(0, 4), BAD);
        due("steps", x.led(1), 7);
    }

    private void stepsOverTheEdge() {
        says(26, "STATE: over the edge.");
        HiredShade x = new HiredShade();
        x.man(0, 0);
        for (int i = 0; i < 12; i++) {
            int[] cells = {i, 12 * i + 11, 132 + i, 12 * i};
            for (int way = 0; way < 4; way++) {
                x.mend(0, 0, cells[way]);
                due("way " + way + " from " + cells[way], x.steps(0, way), STATE);
                due("he is where he was", x.of(0, 0), cells[way]);
            }
        }
        due("no steps", x.led(1), 0);
        for (int way = 0; way < 4; way++) {
            int[] cells = {12, 10, 120 + 11, 1};
            int[] dues = {0, 11, 143, 0};
            x.mend(0, 0, cells[way]);
            due("up to the edge", x.steps(0, way), dues[way]);
        }
    }

    private void birds() {
        says(27, "a bird gets IN (ARMS one more, 4 at most);");
        HiredShade x = new HiredShade();
        x.man(0, 0);
        x.mend(0, 2, 0);
        int[] dues = {1, 2, 3, 4, 4, 4};
        for (int bird = 0; bird < dues.length; bird++) {
            due("bird " + bird, x.bird(0), dues[bird]);
            due("his arms", x.of(0, 2), dues[bird]);
        }
        due("they all got in", x.led(2), 6);
    }

    private void birdAnswers() {
        says(27, "A bird gets IN: ARMS then.");
        HiredShade x = lawful("1", 65, 65);
        due("one more than at first", x.bird(1), 2);
        due("the other's are as they were", x.of(0, 2), 1);
        due("his shade is wider", x.walk(0, 0), 4 * 5);
        x.mend(1, 2, 4);
        due("no more than 4", x.bird(1), 4);
    }

    private void birdIsBad() {
        says(27, "BAD.");
        HiredShade x = new HiredShade();
        due("no man", x.bird(0), BAD);
        for (int men = 1; men <= 7; men++) {
            x.man(0, 0);
            due("the last", x.bird(men - 1), 2);
            due("behind him", x.bird(men), BAD);
        }
        for (int man : beyond(0, 6)) {
            due("man " + man, x.bird(man), BAD);
        }
        due("birds", x.led(2), 7);
    }

    private void goesElsewhere() {
        says(28, "a SITTER goes elsewhere.");
        HiredShade x = lawful("12", 65);
        x.sitter(0, 1);
        due("in the sun", x.at(0, 0), 0);
        due("where he was", x.goes(0, 64), 0);
        due("in the shade", x.at(0, 0), 1);
        due("nowhere else", x.goes(0, 64), 64);
    }

    private void goesAnswers() {
        says(28, "A SITTER goes to a CELL: where he was.");
        HiredShade x = new HiredShade();
        x.sitter(5, 0);
        x.sitter(6, 0);
        due("to the first cell", x.goes(1, 0), 6);
        due("to the last cell", x.goes(1, 143), 0);
        due("he is there", x.of(1, 4), 143);
        due("the other is where he was", x.of(0, 4), 5);
    }

    private void goesIsBad() {
        says(28, "BAD.");
        HiredShade x = new HiredShade();
        due("no sitter", x.goes(0, 0), BAD);
        for (int sitters = 1; sitters <= 8; sitters++) {
            x.sitter(65, 0);
            due("the last", x.goes(sitters - 1, 1), 65);
            due("behind him", x.goes(sitters, 1), BAD);
        }
        for (int sitter : beyond(0, 7)) {
            due("sitter " + sitter, x.goes(sitter, 0), BAD);
        }
        for (int cell : beyond(0, 143)) {
            due("cell " + cell, x.goes(0, cell), BAD);
            due("he is where he was", x.of(0, 4), 1);
        }
    }

    private void led() {
        says(29, "LED: hours, steps, birds, PAY of all MEN for hours that passed, MISSES in them.");
        HiredShade x = new HiredShade();
        for (int i = 0; i < 8; i++) {
            x.man(65, 0);
            x.sitter(0, 4095);
        }
        for (int man = 0; man < 7; man++) {
            x.mend(man, 3, 99);
        }
        for (int hour = 0; hour < 450; hour++) {
            x.passes();
        }
        due("hours", x.led(0), 450);
        due("pay of seven", x.led(3), 450 * 7 * 99);
        due("misses of eight", x.led(4), 450 * 8);
        due("the hour", x.led(5), 450 % 12);
        HiredShade y = new HiredShade();
        y.passes();
        due("nobody's pay", y.led(3), 0);
        y.man(0, 0);
        y.passes();
        due("by what he has now", y.led(3), 10);
        y.mend(0, 3, 1);
        due("not for hours to come", y.led(3), 10);
        y.passes();
        due("by what he has now", y.led(3), 11);
    }

    private void ledAnswers() {
        says(29, "LED: hours (what 0), steps (1), birds (2), PAY (3), MISSES (4), the HOUR (5).");
        HiredShade x = new HiredShade();
        x.man(65, 0);
        x.sitter(0, 0b111);
        x.sitter(0, 0b110);
        for (int hour = 0; hour < 15; hour++) {
            x.passes();
        }
        x.steps(0, 0);
        x.steps(0, 0);
        x.bird(0);
        int[] dues = {15, 2, 1, 150, 10, 3};
        for (int what = 0; what < 6; what++) {
            due("what " + what, x.led(what), dues[what]);
        }
    }

    private void ledIsBad() {
        says(29, "BAD.");
        HiredShade x = new HiredShade();
        for (int what : beyond(0, 5)) {
            due("what " + what, x.led(what), BAD);
        }
    }

    private void imageKeeps() {
        says(30, "AN IMAGE keeps CELLS, ARMS, the HOUR, what LED tells.");
        HiredShade x = new HiredShade();
        x.man(65, 0);
        x.sitter(7, 1);
        for (int hour = 0; hour < 11; hour++) {
            x.passes();
        }
        x.steps(0, 0);
        x.bird(0);
        x.image();
        x.passes();
        x.steps(0, 0);
        x.bird(0);
        x.goes(0, 8);
        int[] mended = {9, 2, 4, 20, 30, 4, 5, 6};
        for (int what = 0; what < 8; what++) {
            x.mend(0, what, mended[what]);
        }
        x.back();
        int[] led = {11, 1, 1, 110, 1, 11};
        for (int what = 0; what < 6; what++) {
            due("led " + what, x.led(what), led[what]);
        }
        int[] dues = {53, 2, 2, 20, 7, 4, 5, 6};
        for (int what = 0; what < 8; what++) {
            due("cells and arms as they were, all else as it is: " + what, x.of(0, what), dues[what]);
        }
        due("changes as they are", x.count(3), 8);
    }

    private void imageOfAll() {
        says(30, "AN IMAGE keeps CELLS, ARMS");
        HiredShade x = new HiredShade();
        for (int i = 0; i < 8; i++) {
            x.man(50 + i, 0);
            x.sitter(60 + i, 0);
        }
        due("seven men, eight sitters", x.image(), 0);
        for (int i = 0; i < 8; i++) {
            x.steps(i, 0);
            x.bird(i);
            x.goes(i, 0);
        }
        due("back", x.back(), 0);
        for (int i = 0; i < 8; i++) {
            due("his cell", x.of(i, 0), i < 7 ? 50 + i : BAD);
            due("his arms", x.of(i, 2), i < 7 ? 1 : BAD);
            due("the sitter's cell", x.of(i, 4), 60 + i);
        }
    }

    private void imageAnswers() {
        says(30, "AN IMAGE is kept: hours.");
        HiredShade x = new HiredShade();
        due("none passed", x.image(), 0);
        x.passes();
        due("one passed", x.image(), 1);
        for (int hour = 0; hour < 12; hour++) {
            x.passes();
        }
        due("thirteen passed", x.image(), 13);
        due("the latest image", x.back(), 13);
        due("the hour", x.led(5), 1);
    }

    private void backAnswers() {
        says(31, "It is laid back");
        HiredShade x = new HiredShade();
        x.man(65, 0);
        x.passes();
        x.image();
        x.passes();
        x.steps(0, 1);
        due("hours", x.back(), 1);
        due("his cell", x.of(0, 0), 65);
        due("again: nothing changed", x.back(), 1);
        x.steps(0, 1);
        x.passes();
        due("the image is kept still", x.back(), 1);
        due("his cell", x.of(0, 0), 65);
        due("no steps", x.led(1), 0);
    }

    private void cameSince() {
        says(31, "(MEN, SITTERS that came since as they are): hours.");
        HiredShade x = new HiredShade();
        due("an image of nobody", x.image(), 0);
        for (int i = 0; i < 8; i++) {
            x.man(50 + i, 0);
            x.sitter(60 + i, 0);
            x.bird(i);
        }
        due("back", x.back(), 0);
        due("they are there", x.count(0), 7);
        due("they are there", x.count(1), 8);
        for (int i = 0; i < 8; i++) {
            due("his cell", x.of(i, 0), i < 7 ? 50 + i : BAD);
            due("his arms", x.of(i, 2), i < 7 ? 2 : BAD);
            due("the sitter's cell", x.of(i, 4), 60 + i);
        }
        due("birds as they were", x.led(2), 0);
        HiredShade y = new HiredShade();
        y.man(1, 0);
        y.sitter(2, 0);
        y.image();
        y.man(3, 0);
        y.sitter(4, 0);
        for (int i = 0; i < 2; i++) {
            y.steps(i, 2);
            y.goes(i, 70);
        }
        y.back();
        due("the first man", y.of(0, 0), 1);
        due("the man who came since", y.of(1, 0), 15);
        due("the first sitter", y.of(0, 4), 2);
        due("the sitter who came since", y.of(1, 4), 70);
    }

    private void noImage() {
        says(31, "STATE: there is none.");
        HiredShade x = new HiredShade();
        x.man(65, 0);
        x.passes();
        due("none", x.back(), STATE);
        due("hours as they were", x.led(0), 1);
        due("still none", x.back(), STATE);
        x.image();
        due("there is one", x.back(), 1);
    }

    private void allNumbersOfMend() {
        says(32, "CHANGES (all numbers of mend();");
        int[] first = {1, 0, 1, 10, 2, 3, 6, 0};
        for (int what = 0; what < 8; what++) {
            HiredShade x = new HiredShade();
            x.man(1, 0);
            x.sitter(2, 3);
            x.mend(0, what, 2 + (what == 4 || what == 5 ? 5 : 0));
            due("one change, what " + what, x.count(3), 1);
            due("undone", x.undo(), 0);
            due("as it was", x.of(0, what), first[what]);
            due("done again", x.redo(), 0);
            due("as it became", x.of(0, what), 2 + (what == 4 || what == 5 ? 5 : 0));
        }
        HiredShade x = new HiredShade();
        x.man(1, 0);
        x.sitter(1, 1);
        row(x, 0, SHORTS, 1, 1, 1);
        x.sitters(0, 0, 1);
        law(x, "1");
        x.body(0);
        due("all else is none", x.count(3), 0);
        due("all else is none", x.undo(), STATE);
    }

    private void sameNumberIsNone() {
        says(32, "telling the same number is none)");
        HiredShade x = new HiredShade();
        x.man(1, 0);
        due("the same", x.mend(0, 3, 10), 10);
        due("none", x.count(3), 0);
        due("none", x.undo(), STATE);
        x.mend(0, 3, 11);
        x.mend(0, 3, 11);
        due("one", x.count(3), 1);
        x.undo();
        x.mend(0, 3, 10);
        due("it cuts off none that was undone", x.redo(), 0);
        due("done again", x.of(0, 3), 11);
        x.undo();
        due("a refused one, too", x.mend(0, 3, 100), BAD);
        due("cuts off none", x.redo(), 0);
    }

    private void latestFirst() {
        says(32, "can be UNDONE, the latest first,");
        HiredShade x = new HiredShade();
        x.man(1, 0);
        x.mend(0, 3, 11);
        x.mend(0, 0, 5);
        x.mend(0, 3, 12);
        x.undo();
        due("the latest", x.of(0, 3), 11);
        due("not the one ahead of it", x.of(0, 0), 5);
        x.undo();
        due("the one ahead of it", x.of(0, 0), 1);
        due("not the first", x.of(0, 3), 11);
        x.undo();
        due("the first", x.of(0, 3), 10);
        HiredShade y = new HiredShade();
        for (int i = 0; i < 8; i++) {
            y.man(i, 0);
            y.sitter(i, 0);
        }
        for (int what = 0; what < 7; what++) {
            y.mend(what < 4 ? 6 : 7, what, 2);
        }
        for (int what = 6; what >= 0; what--) {
            int number = what < 4 ? 6 : 7;
            int was = new int[] {6, 0, 1, 10, 7, 0, 6}[what];
            due("of the last man or sitter, what " + what, y.of(number, what), 2);
            due("undone", y.undo(), what);
            due("as it was", y.of(number, what), was);
            due("of the first, what " + what, y.of(0, what), new int[] {0, 0, 1, 10, 0, 0, 6}[what]);
        }
    }

    private void noOtherCameBehind() {
        says(33, "and DONE AGAIN (as long as no other came behind);");
        HiredShade x = new HiredShade();
        x.man(1, 0);
        x.mend(0, 3, 11);
        x.mend(0, 3, 12);
        x.undo();
        x.undo();
        due("the first again", x.redo(), 1);
        due("pay", x.of(0, 3), 11);
        x.mend(0, 0, 5);
        due("another came behind", x.redo(), STATE);
        due("pay as it was", x.of(0, 3), 11);
        due("two may be undone", x.count(3), 2);
        x.undo();
        due("the other may be done again", x.redo(), 0);
        due("cell", x.of(0, 0), 5);
        x.undo();
        x.man(2, 0);
        x.sitter(2, 0);
        due("one who came is no change", x.redo(), 0);
    }

    private void fortyAreKept() {
        says(32, "40 at most are kept;");
        for (int changes : new int[] {1, 39, 40, 41, 80}) {
            HiredShade x = new HiredShade();
            x.man(0, 0);
            for (int i = 1; i <= changes; i++) {
                x.mend(0, 0, i);
            }
            int kept = Math.min(40, changes);
            due("changes " + changes, x.count(3), kept);
            for (int left = kept - 1; left >= 0; left--) {
                due("how many may still be", x.undo(), left);
                due("cell", x.of(0, 0), changes - kept + left);
            }
            due("no more", x.undo(), STATE);
            due("cell", x.of(0, 0), changes - kept);
            for (int left = kept - 1; left >= 0; left--) {
                due("how many may still be", x.redo(), left);
            }
            due("no more", x.redo(), STATE);
            due("cell", x.of(0, 0), changes);
        }
        afterTheFortieth();
    }

    /** What was undone makes room: the oldest stays, as long as no more than 40 are kept. */
    private void afterTheFortieth() {
        HiredShade x = new HiredShade();
        x.man(0, 0);
        for (int i = 1; i <= 40; i++) {
            x.mend(0, 0, i);
        }
        x.undo();
        x.mend(0, 0, 100);
        due("40 still", x.count(3), 40);
        for (int left = 39; left >= 0; left--) {
            due("how many may still be", x.undo(), left);
        }
        due("the oldest was kept", x.of(0, 0), 0);
    }

    private void deedsAreNone() {
        says(32, "deeds are none (CELLS, ARMS by them, too).");
        HiredShade x = new HiredShade();
        x.man(65, 0);
        x.sitter(2, 1);
        x.passes();
        x.steps(0, 0);
        x.bird(0);
        x.goes(0, 9);
        x.image();
        x.back();
        due("none", x.count(3), 0);
        due("none may be undone", x.undo(), STATE);
        due("his cell", x.of(0, 0), 53);
        x.mend(0, 3, 20);
        x.undo();
        x.steps(0, 0);
        x.bird(0);
        x.goes(0, 10);
        x.passes();
        x.back();
        due("they cut off none", x.redo(), 0);
        x.mend(0, 0, 100);
        x.steps(0, 1);
        x.undo();
        due("as it was ahead of the change", x.of(0, 0), 53);
        x.steps(0, 1);
        x.redo();
        due("as it became by the change", x.of(0, 0), 100);
        due("steps are led still", x.led(1), 3);
    }

    private void undoAnswers() {
        says(32, "UNDONE: how many may still be.");
        HiredShade x = new HiredShade();
        x.mend(0, 7, 1);
        x.mend(0, 7, 2);
        x.mend(0, 7, 3);
        for (int left = 2; left >= 0; left--) {
            due("undo", x.undo(), left);
            due("may be undone", x.count(3), left);
            due("breeze", x.of(0, 7), left);
        }
    }

    private void nothingToUndo() {
        says(32, "STATE: none.");
        HiredShade x = new HiredShade();
        due("a new walk", x.undo(), STATE);
        x.mend(0, 7, 1);
        x.undo();
        due("all are undone", x.undo(), STATE);
        due("breeze", x.of(0, 7), 0);
        due("it may be done again still", x.redo(), 0);
    }

    private void redoAnswers() {
        says(33, "DONE AGAIN: how many may still be.");
        HiredShade x = new HiredShade();
        for (int i = 1; i <= 3; i++) {
            x.mend(0, 7, i);
        }
        for (int i = 1; i <= 3; i++) {
            x.undo();
        }
        for (int left = 2; left >= 0; left--) {
            due("redo", x.redo(), left);
            due("breeze", x.of(0, 7), 3 - left);
            due("may be undone", x.count(3), 3 - left);
        }
    }

    private void nothingToRedo() {
        says(33, "STATE: none.");
        HiredShade x = new HiredShade();
        due("a new walk", x.redo(), STATE);
        x.mend(0, 7, 1);
        due("none was undone", x.redo(), STATE);
        x.undo();
        x.redo();
        due("all are done again", x.redo(), STATE);
        due("breeze", x.of(0, 7), 1);
        due("it may be undone still", x.undo(), 0);
    }
}
