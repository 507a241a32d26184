/** The edges of the terms about input text and undo and of promises 11 to 14, sentence by sentence. */
public final class TextEdgesTest {
    private static final int MIN = Integer.MIN_VALUE;
    private static final int MAX = Integer.MAX_VALUE;
    private static final Due due = new Due("TextEdgesTest");

    public static void main(String[] args) {
        appendCodes();
        appendTo60();
        appendWhereSeveralApply();
        appendIsNotSaved();
        clearBuffer();
        clearFullBuffer();
        digits0To7();
        strokesOf1To8();
        neighborsUnlike();
        firstErrorOfTheWholeRest();
        firstErrorOfNone();
        firstErrorChangesNothing();
        undoOfNothing();
        savedAlsoWithoutChange();
        refusedIsNotSaved();
        refusedChangesNothing();
        atMost6Saved();
        theOldestIsDropped();
        theOldestIsDroppedManyTimes();
        allButTheBuffer();
        eachKindOfChangeUndone();
        looksAreNotSaved();
        the512thCall();
        due.end();
    }

    // ---- append and clearBuffer

    private static void appendCodes() {
        due.promise(11);
        due.sentence("Throws `IllegalArgumentException` if code is not 33 to 126");
        for (int code = 33; code <= 126; code++) {
            due.is("append " + code, new LatticeGestures().append(code), 1);
        }
        int[] wrong = {32, 127, 31, 128, 0, -1, -33, 255, 256 + 48, 65536 + 48, MIN, MIN + 48, MAX};
        for (int code : wrong) {
            due.refuses(() -> Steps.type(Steps.sixSaved(), "02"), "append " + code, Due.ARGUMENT, g -> g.append(code));
        }
    }

    private static void appendTo60() {
        due.promise(11);
        due.sentence("Throws `IllegalStateException` if the buffer has 60 characters");
        LatticeGestures g = new LatticeGestures();
        for (int length = 1; length <= 60; length++) {
            due.is("append", g.append(33 + length), length);
        }
        due.refuses(Steps::fullBuffer, "character 61", Due.STATE, h -> h.append('0'));
        due.refuses(Steps::fullBuffer, "character 61, the least", Due.STATE, h -> h.append(33));
        due.refuses(Steps::fullBuffer, "character 61, the greatest", Due.STATE, h -> h.append(126));
        due.is("length", g.clearBuffer(), 60);
    }

    private static void appendWhereSeveralApply() {
        due.promise(11);
        due.sentence("If several exceptions apply, the one that is named first in the throws clause is thrown.");
        for (int code : new int[] {32, 127, MIN, MAX}) {
            due.refuses(Steps::fullBuffer, "character 61 is " + code, Due.ARGUMENT, g -> g.append(code));
        }
    }

    private static void appendIsNotSaved() {
        due.promise(11);
        due.sentence("Appends a character to the buffer.");
        LatticeGestures g = Steps.type(Steps.sixSaved(), "02");
        due.is("saved states", g.count(8), 6);
        g.undo();
        due.row("undo takes the last point, not the character", Steps.points(g), 1, 1, 2, 1, 3, 1, 4, 1, 5, 1, 6, 1);
        due.is("length of the buffer", g.append('4'), 3);
        due.is("saved states without any", Steps.type(new LatticeGestures(), "02").count(8), 0);
    }

    private static void clearBuffer() {
        due.promise(12);
        due.sentence("Returns the length that it had.");
        LatticeGestures g = new LatticeGestures();
        due.is("an empty one", g.clearBuffer(), 0);
        due.is("an empty one again", g.clearBuffer(), 0);
        due.is("of one character", Steps.type(g, "~").clearBuffer(), 1);
        due.is("it is empty then", g.clearBuffer(), 0);
        due.is("saved states", g.count(8), 0);
        due.is("digest as of a new one", g.digest(), new LatticeGestures().digest());
    }

    private static void clearFullBuffer() {
        due.promise(12);
        due.sentence("Clears the buffer.");
        LatticeGestures g = Steps.fullBuffer();
        due.is("of 60 characters", g.clearBuffer(), 60);
        due.is("first error", g.firstError(), 0);
        due.is("append", g.append('0'), 1);
        due.is("append the next one", g.append('1'), 2);
        due.is("read", g.read(), 0);
        due.row("nothing of the 60 characters", Steps.strokeOf(g, 0), 0, 1);
        LatticeGestures points = Steps.type(Steps.withPath(3, 3, 5, 3), "0");
        points.clearBuffer();
        due.row("the path stays", Steps.points(points), 3, 3, 5, 3);
    }

    // ---- firstError

    private static void firstErrorIs(String text, int place) {
        LatticeGestures g = Steps.type(new LatticeGestures(), text);
        due.is("first error of '" + text + "'", g.firstError(), place);
    }

    private static void digits0To7() {
        due.promise(13);
        due.sentence("A stroke as a text is 1 to 8 digits 0 to 7, no two neighboring ones of which are the same.");
        for (int code = 33; code <= 126; code++) {
            boolean isDigit = code >= 48 && code <= 55;
            firstErrorIs("" + (char) code, isDigit ? 1 : 0);
            firstErrorIs("0123456" + (char) code, isDigit && code != 54 ? 8 : 7);
        }
    }

    private static void strokesOf1To8() {
        due.promise(13);
        due.sentence("A stroke as a text is 1 to 8 digits 0 to 7, no two neighboring ones of which are the same.");
        for (int length = 0; length <= 8; length++) {
            firstErrorIs("02460246".substring(0, length), length);
        }
        firstErrorIs("024602460", 8);
        firstErrorIs("0246024602", 8);
        firstErrorIs("0246024x", 7);
        firstErrorIs("02460246x", 8);
        firstErrorIs("024602466", 8);
        due.is("first error of 60 characters", Steps.fullBuffer().firstError(), 8);
    }

    private static void neighborsUnlike() {
        due.promise(13);
        due.sentence("no two neighboring ones of which are the same.");
        for (int digit = 0; digit <= 7; digit++) {
            firstErrorIs("" + digit + digit, 1);
            firstErrorIs("" + digit + (digit + 1) % 8 + digit, 3);
        }
        firstErrorIs("0122", 3);
        firstErrorIs("01234566", 7);
        firstErrorIs("01234565", 8);
        firstErrorIs("110", 1);
    }

    private static void firstErrorOfTheWholeRest() {
        due.promise(13);
        due.sentence("a character is a syntax error if no stroke as a text begins with the characters before it and "
                + "this character.");
        firstErrorIs("x0", 0);
        firstErrorIs("0x0x", 1);
        firstErrorIs("001122", 1);
        firstErrorIs("0088", 1);
        firstErrorIs("8800", 0);
        LatticeGestures g = Steps.type(new LatticeGestures(), "x");
        Steps.type(g, "012345670123456701234567");
        due.is("it stays the first one", g.firstError(), 0);
    }

    private static void firstErrorOfNone() {
        due.promise(13);
        due.sentence("the length of the buffer if there is none.");
        firstErrorIs("", 0);
        firstErrorIs("7", 1);
        firstErrorIs("70707070", 8);
        LatticeGestures ten = Steps.type(Steps.tenCommands(), "0");
        due.is("whether it could be read does not matter", ten.firstError(), 1);
    }

    private static void firstErrorChangesNothing() {
        due.promise(13);
        due.sentence("Finds the first syntax error of the buffer.");
        due.keeps(() -> Steps.type(Steps.sixSaved(), "02x"), "first error", g -> g.firstError());
        due.keeps(Steps::fullBuffer, "first error of 60", g -> g.firstError());
        LatticeGestures g = Steps.type(new LatticeGestures(), "02");
        g.firstError();
        due.is("read after that", g.read(), 0);
    }

    // ---- undo

    private static void undoOfNothing() {
        due.promise(14);
        due.sentence("Throws `IllegalStateException` if there is none");
        due.refuses(LatticeGestures::new, "undo of a new one", Due.STATE, g -> g.undo());
        due.refuses(Steps::fullBuffer, "undo of characters", Due.STATE, g -> g.undo());
        due.refuses(() -> {
            LatticeGestures g = Steps.sixSaved();
            for (int undone = 0; undone < 6; undone++) {
                g.undo();
            }
            return g;
        }, "a seventh undo", Due.STATE, g -> g.undo());
        LatticeGestures one = Steps.withPath(3, 3);
        due.is("undo of one", one.undo(), 0);
        due.is("digest as of a new one", one.digest(), new LatticeGestures().digest());
    }

    private static void savedAlsoWithoutChange() {
        due.promise(14);
        due.sentence("saves the state from before it (also if it changes nothing)");
        due.saves(LatticeGestures::new, "begin", g -> g.begin());
        due.saves(LatticeGestures::new, "turn", g -> g.turn(7));
        due.saves(LatticeGestures::new, "set", g -> g.set(4, 2));
        due.saves(() -> Steps.withPath(0, 0), "go", g -> g.go(4, 31));
        LatticeGestures g = Steps.sixSaved();
        for (int call = 0; call < 6; call++) {
            g.set(0, 2);
        }
        for (int undone = 0; undone < 6; undone++) {
            g.undo();
        }
        due.is("they drop the older ones, so no point is undone", g.count(0), 7);
    }

    private static void refusedIsNotSaved() {
        due.promise(14);
        due.sentence("Each method that is marked \"undoable\" and does not throw an exception saves the state from "
                + "before it");
        LatticeGestures g = new LatticeGestures();
        due.refused(g, "point", Due.ARGUMENT, () -> g.point(32, 0));
        due.refused(g, "go", Due.ARGUMENT, () -> g.go(8, 1));
        due.refused(g, "back", Due.ARGUMENT, () -> g.back(1));
        due.refused(g, "turn", Due.ARGUMENT, () -> g.turn(8));
        due.refused(g, "learn", Due.STATE, () -> g.learn());
        due.refused(g, "read", Due.ARGUMENT, () -> g.read());
        due.refused(g, "forget", Due.INDEX, () -> g.forget(0));
        due.refused(g, "set", Due.ARGUMENT, () -> g.set(0, 10));
        due.refused(g, "undo", Due.STATE, () -> g.undo());
        due.is("saved states", g.count(8), 0);
    }

    private static void refusedChangesNothing() {
        due.promise(14);
        due.sentence("A call that throws an exception changes nothing.");
        due.refuses(TextEdgesTest::busy, "point", Due.ARGUMENT, g -> g.point(32, 0));
        due.refuses(Steps::fullPath, "point", Due.STATE, g -> g.point(0, 0));
        due.refuses(TextEdgesTest::busy, "go", Due.ARGUMENT, g -> g.go(0, 0));
        due.refuses(Steps::fullPath, "go", Due.STATE, g -> g.go(0, 1));
        due.refuses(TextEdgesTest::busy, "back", Due.ARGUMENT, g -> g.back(5));
        due.refuses(TextEdgesTest::busy, "turn", Due.ARGUMENT, g -> g.turn(0));
        due.refuses(() -> Steps.withPath(1, 0, 3, 0, 0, 0), "turn", Due.STATE, g -> g.turn(2));
        due.refuses(TextEdgesTest::busy, "learn", Due.STATE, g -> g.learn());
        due.refuses(TextEdgesTest::busy, "read", Due.ARGUMENT, g -> g.read());
        due.refuses(() -> Steps.type(Steps.withCommands("02"), "02"), "read", Due.STATE, g -> g.read());
        due.refuses(TextEdgesTest::busy, "forget", Due.INDEX, g -> g.forget(2));
        due.refuses(TextEdgesTest::busy, "set", Due.INDEX, g -> g.set(5, 0));
        due.refuses(TextEdgesTest::busy, "set", Due.ARGUMENT, g -> g.set(0, 0));
        due.refuses(TextEdgesTest::busy, "set", Due.STATE, g -> g.set(4, 20));
        due.refuses(TextEdgesTest::busy, "append", Due.ARGUMENT, g -> g.append(32));
        due.refuses(Steps::fullBuffer, "append", Due.STATE, g -> g.append('0'));
        due.refuses(TextEdgesTest::busy, "pointOf", Due.INDEX, g -> g.pointOf(4, 0));
        due.refuses(TextEdgesTest::busy, "pointOf", Due.ARGUMENT, g -> g.pointOf(0, 4));
        due.refuses(TextEdgesTest::busy, "run", Due.ARGUMENT, g -> g.run(0, 4));
        due.refuses(TextEdgesTest::busy, "stroke", Due.ARGUMENT, g -> g.stroke(-1));
        due.refuses(TextEdgesTest::busy, "strokeOf", Due.INDEX, g -> g.strokeOf(2, 0));
        due.refuses(TextEdgesTest::busy, "strokeOf", Due.ARGUMENT, g -> g.strokeOf(0, -1));
        due.refuses(TextEdgesTest::busy, "distance", Due.INDEX, g -> g.distance(0, 2));
        due.refuses(TextEdgesTest::busy, "reading", Due.ARGUMENT, g -> g.reading(5));
        due.refuses(TextEdgesTest::busy, "count", Due.ARGUMENT, g -> g.count(9));
        due.refuses(TextEdgesTest::busy, "setting", Due.INDEX, g -> g.setting(5));
        due.refuses(TextEdgesTest::busy, "ifPoint", Due.ARGUMENT, g -> g.ifPoint(32, 0));
    }

    private static void atMost6Saved() {
        due.promise(14);
        due.sentence("At most 6 states are saved");
        LatticeGestures g = new LatticeGestures();
        for (int call = 1; call <= 9; call++) {
            g.point(call, 1);
            due.is("saved states after " + call, g.count(8), Math.min(call, 6));
        }
        for (int left = 5; left >= 0; left--) {
            due.is("left by undo", g.undo(), left);
            due.is("saved states", g.count(8), left);
        }
        due.refused(g, "one more", Due.STATE, () -> g.undo());
    }

    private static void theOldestIsDropped() {
        due.promise(14);
        due.sentence("the oldest one is dropped first.");
        LatticeGestures six = Steps.withPath(1, 1, 2, 2, 3, 3, 4, 4, 5, 5, 6, 6);
        LatticeGestures seven = Steps.withPath(1, 1, 2, 2, 3, 3, 4, 4, 5, 5, 6, 6, 7, 7);
        LatticeGestures eight = Steps.withPath(1, 1, 2, 2, 3, 3, 4, 4, 5, 5, 6, 6, 7, 7, 8, 8);
        for (int undone = 1; undone <= 6; undone++) {
            six.undo();
            seven.undo();
            eight.undo();
            due.is("points of 6", six.count(0), 6 - undone);
            due.is("points of 7", seven.count(0), 7 - undone);
            due.is("points of 8", eight.count(0), 8 - undone);
        }
        due.row("the first of 8 were dropped", Steps.points(eight), 1, 1, 2, 2);
    }

    private static void theOldestIsDroppedManyTimes() {
        due.promise(14);
        due.sentence("the oldest one is dropped first.");
        for (int calls = 7; calls <= 30; calls++) {
            LatticeGestures g = new LatticeGestures();
            for (int call = 0; call < calls; call++) {
                g.set(4, call % 21);
                if (call % 5 == 4) {
                    g.undo();
                    g.set(4, call % 21);
                }
            }
            for (int undone = 1; undone <= 6; undone++) {
                due.is("undo of " + calls, g.undo(), 6 - undone);
                due.is("setting then", g.setting(4), (calls - 1 - undone) % 21);
            }
        }
    }

    private static void allButTheBuffer() {
        due.promise(14);
        due.sentence("all but the buffer and the saved states.");
        LatticeGestures g = Steps.type(Steps.withPath(3, 3), "02");
        g.set(0, 9);
        g.append('4');
        g.undo();
        due.is("the buffer is not brought back", g.firstError(), 3);
        g.clearBuffer();
        g.undo();
        due.is("nor is one that was cleared", g.clearBuffer(), 0);
        LatticeGestures full = Steps.fullBuffer();
        full.point(3, 3);
        full.undo();
        due.is("a full one stays", full.clearBuffer(), 60);
        LatticeGestures saved = Steps.sixSaved();
        saved.undo();
        due.is("a saved state is dropped by its undo", saved.count(8), 5);
    }

    private static void eachKindOfChangeUndone() {
        due.promise(14);
        due.sentence("Restores the latest saved state, and drops it.");
        LatticeGestures g = Steps.draw(Steps.withCommands("04", "26"), "0246");
        g.point(15, 15);
        g.turn(1);
        g.forget(0);
        g.set(3, 9);
        g.back(2);
        g.learn();
        g.go(6, 9);
        g.begin();
        due.row("counts of all that", Steps.counts(g), 0, 0, 0, 0, 0, 2, 5, g.distance(0, 1), 6);
        for (int undone = 1; undone <= 6; undone++) {
            due.is("left", g.undo(), 6 - undone);
        }
        due.row("counts after that", Steps.counts(g), 6, 4, 4, 8, 0, 2, 4, 8, 0);
        due.row("stroke after that", Steps.stroke(g), 1, 3, 5, 7);
        due.row("settings after that", Steps.settings(g), 2, 2, 2, 3, 2);
        due.row("first command after that", Steps.strokeOf(g, 0), 0, 4);
        due.row("second command after that", Steps.strokeOf(g, 1), 2, 6);
    }

    private static void looksAreNotSaved() {
        due.promise(14);
        due.sentence("---- looks; nothing is changed.");
        due.keeps(TextEdgesTest::busy, "all looks", g -> {
            g.pointOf(0, 0);
            g.run(0, 3);
            g.stroke(0);
            g.strokeOf(1, 0);
            g.distance(0, 1);
            g.distance(1, LatticeGestures.NONE);
            Steps.readings(g);
            Steps.counts(g);
            Steps.settings(g);
        });
        due.sentence("---- what would be; nothing is changed.");
        due.keeps(TextEdgesTest::busy, "all that would be", g -> {
            g.ifPoint(31, 31);
            g.against();
            g.mostForgiven();
            g.straightness();
            g.doubt();
            g.digest();
        });
    }

    private static LatticeGestures busy() {
        return Steps.type(Steps.draw(Steps.withCommands("0246", "4"), "024"), "0x");
    }

    private static void the512thCall() {
        due.promise(14);
        due.sentence("An object is used for at most 512 calls after it has been made");
        LatticeGestures g = new LatticeGestures();
        for (int round = 0; round < 100; round++) {
            g.point(round % 32, 0);
            g.append('0' + round % 8);
            g.begin();
            g.clearBuffer();
            g.ifPoint(31, 31);
        }
        Steps.type(g, "0246");
        g.read();
        for (int point = 0; point < 6; point++) {
            g.point(5 + 5 * (point / 3), 5 + 2 * (point % 3));
        }
        LatticeGestures fresh = Steps.path(Steps.withCommands("0246"), 5, 5, 5, 7, 5, 9, 10, 5, 10, 7, 10, 9);
        due.is("call 512", g.digest(), fresh.digest());
    }
}
