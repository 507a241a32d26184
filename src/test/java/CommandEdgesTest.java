/** The edges of the terms about commands and settings and of promises 7 to 10, sentence by sentence. */
public final class CommandEdgesTest {
    private static final int NONE = LatticeGestures.NONE;
    private static final int MIN = Integer.MIN_VALUE;
    private static final int MAX = Integer.MAX_VALUE;
    private static final int[] LEAST = {1, 0, 1, 1, 0};
    private static final int[] GREATEST = {9, 9, 9, 9, 20};
    private static final Due due = new Due("CommandEdgesTest");

    public static void main(String[] args) {
        atMost10Commands();
        learn1To8Directions();
        learnApartFromCommands();
        learnAtTheLeastForgiven();
        learnAtTheMostForgiven();
        learnIsUndoable();
        readCompleteStrokes();
        readNoStrokes();
        readClearsTheBuffer();
        readWith10Commands();
        readApartFromCommands();
        readWhereSeveralApply();
        readIsUndoable();
        forgetNoCommand();
        forgetRenumbers();
        forgetIsUndoable();
        settingsAtFirst();
        setSettings();
        setValues();
        setWhereSeveralApply();
        setForgivenTooMuch();
        setTurnsTooCheap();
        setGapsTooCheap();
        setOfAnyTwoCommands();
        setIsUndoable();
        due.end();
    }

    /** Two commands at the distance 6: three eighths at 2, or one left out and one put in at 3. */
    private static LatticeGestures twoAt6() {
        return Steps.withCommands("0", "3");
    }

    // ---- learn

    private static void atMost10Commands() {
        due.promise(7);
        due.sentence("There are at most 10 commands, numbered from 0 in the order in which they came");
        String[] strokes = {"0", "1", "2", "3", "4", "5", "6", "7", "02", "04"};
        LatticeGestures g = new LatticeGestures();
        g.set(4, 0);
        for (int command = 0; command < 10; command++) {
            g.begin();
            due.is("learn", Steps.draw(g, strokes[command]).learn(), command);
            due.is("its first direction", g.strokeOf(command, 0), strokes[command].charAt(0) - '0');
        }
        due.is("commands", g.count(5), 10);
        due.refuses(() -> Steps.draw(Steps.tenCommands(), "0246"), "an eleventh", Due.STATE, h -> h.learn());
        due.refuses(() -> Steps.draw(Steps.tenCommands(), "0"), "one that is there", Due.STATE, h -> h.learn());
        due.refuses(Steps::tenCommands, "an eleventh without directions", Due.STATE, h -> h.learn());
        LatticeGestures nine = Steps.draw(Steps.tenCommands(), "0246");
        nine.forget(0);
        due.is("a tenth", nine.learn(), 9);
    }

    private static void learn1To8Directions() {
        due.promise(7);
        due.sentence("the stroke has not 1 to 8 directions");
        due.refuses(LatticeGestures::new, "learn without points", Due.STATE, g -> g.learn());
        due.refuses(() -> Steps.withPath(3, 3), "learn one point", Due.STATE, g -> g.learn());
        due.refuses(() -> Steps.withPath(3, 3, 3, 3), "learn without runs", Due.STATE, g -> g.learn());
        LatticeGestures one = Steps.drawn("5");
        due.is("learn 1 direction", one.learn(), 0);
        due.row("its stroke", Steps.strokeOf(one, 0), 5);
        LatticeGestures eight = Steps.drawn("02460246");
        due.is("learn 8 directions", eight.learn(), 0);
        due.row("its stroke", Steps.strokeOf(eight, 0), 0, 2, 4, 6, 0, 2, 4, 6);
        due.refuses(() -> Steps.drawn("024602460"), "learn 9 directions", Due.STATE, g -> g.learn());
        due.refuses(Steps::fullPath, "learn 39 directions", Due.STATE, g -> g.learn());
        LatticeGestures left = Steps.withPath(15, 15, 16, 15);
        Steps.draw(left, "20246024");
        due.is("9 runs", left.count(1), 9);
        due.is("learn the 8 that are left", left.learn(), 0);
        due.row("their directions", Steps.strokeOf(left, 0), 2, 0, 2, 4, 6, 0, 2, 4);
        due.is("a lone short run", Steps.withPath(3, 3, 4, 3).learn(), 0);
    }

    private static void learnApartFromCommands() {
        due.promise(7);
        due.sentence("or its distance from a command is at most 2 times setting 4");
        due.refuses(() -> Steps.draw(Steps.withCommands("0"), "0"), "learn at 0", Due.STATE, g -> g.learn());
        due.refuses(() -> Steps.draw(Steps.withCommands("0"), "04"), "learn at 3", Due.STATE, g -> g.learn());
        due.refuses(() -> Steps.draw(Steps.withCommands("0"), "2"), "learn at 4", Due.STATE, g -> g.learn());
        due.is("learn at 5", Steps.draw(Steps.withCommands("04"), "1").learn(), 1);
        due.is("learn at 6", Steps.draw(Steps.withCommands("0"), "4").learn(), 1);
        due.refuses(() -> Steps.draw(Steps.withCommands("2", "6", "04"), "2"), "near the first one", Due.STATE,
                g -> g.learn());
        due.refuses(() -> Steps.draw(Steps.withCommands("2", "6", "04"), "04"), "near the last one", Due.STATE,
                g -> g.learn());
    }

    private static void learnAtTheLeastForgiven() {
        due.promise(7);
        due.sentence("Any two commands always have a distance above 2 times setting 4.");
        due.refuses(() -> Steps.draw(forgiving("0", 0, 1, 1), "0"), "learn at 0 and 0", Due.STATE, g -> g.learn());
        LatticeGestures g = Steps.draw(forgiving("0", 0, 1, 1), "1");
        due.is("distance", g.distance(0, NONE), 1);
        due.is("learn at 1 and 0", g.learn(), 1);
        due.refuses(() -> Steps.draw(forgiving("0", 1, 1, 1), "2"), "learn at 2 and 1", Due.STATE, h -> h.learn());
        due.is("learn at 3 and 1", Steps.draw(forgiving("0", 1, 1, 3), "3").learn(), 1);
    }

    private static void learnAtTheMostForgiven() {
        due.promise(7);
        due.sentence("Any two commands always have a distance above 2 times setting 4.");
        due.refuses(() -> Steps.draw(forgiving("0", 20, 9, 8), "040404"), "learn at 40 and 20", Due.STATE,
                g -> g.learn());
        LatticeGestures g = Steps.draw(forgiving("1", 20, 9, 8), "04040");
        due.is("distance", g.distance(0, NONE), 41);
        due.is("learn at 41 and 20", g.learn(), 1);
        due.is("least distance", g.count(7), 41);
    }

    /** One command, with this forgiven, and these costs of an eighth and of a direction. */
    private static LatticeGestures forgiving(String command, int forgiven, int turn, int gap) {
        LatticeGestures g = Steps.withCommands(command);
        g.set(2, turn);
        g.set(3, gap);
        g.set(4, forgiven);
        return g;
    }

    private static void learnIsUndoable() {
        due.promise(7);
        due.sentence("Adds a command with the stroke of the path. Undoable.");
        due.saves(() -> Steps.drawn("02"), "learn", g -> g.learn());
        due.saves(() -> Steps.draw(Steps.withCommands("4"), "02"), "learn a second one", g -> g.learn());
        LatticeGestures g = Steps.type(Steps.drawn("02"), "04");
        g.learn();
        due.is("the path stays", g.count(0), 3);
        due.is("the buffer stays", g.clearBuffer(), 2);
    }

    // ---- read

    private static void readCompleteStrokes() {
        due.promise(8);
        due.sentence("A command has a stroke of 1 to 8 directions, no two neighboring ones of which are the same.");
        for (int direction = 0; direction <= 7; direction++) {
            LatticeGestures g = Steps.type(new LatticeGestures(), "" + direction);
            due.is("read " + direction, g.read(), 0);
            due.row("its stroke", Steps.strokeOf(g, 0), direction);
        }
        LatticeGestures eight = Steps.type(new LatticeGestures(), "76543210");
        due.is("read 8", eight.read(), 0);
        due.row("their stroke", Steps.strokeOf(eight, 0), 7, 6, 5, 4, 3, 2, 1, 0);
        LatticeGestures again = Steps.type(new LatticeGestures(), "0101");
        due.is("the same ones, but not neighboring", again.read(), 0);
        due.row("their stroke", Steps.strokeOf(again, 0), 0, 1, 0, 1);
    }

    private static void readNoStrokes() {
        due.promise(8);
        due.sentence("Throws `IllegalArgumentException` if the buffer is not a complete stroke as a text");
        String[] texts = {"", "/", "8", "!", "~", "00", "77", "011", "0/", "08", "8012", "01234566", "01234568",
                "012345670", "012345677", "010101010101", "+1", "-1", "0.1", "A"};
        for (String text : texts) {
            due.refuses(() -> Steps.type(Steps.sixSaved(), text), "read '" + text + "'", Due.ARGUMENT, g -> g.read());
        }
        due.refuses(Steps::fullBuffer, "read 60 characters", Due.ARGUMENT, g -> g.read());
    }

    private static void readClearsTheBuffer() {
        due.promise(8);
        due.sentence("Adds a command with the stroke in the buffer, and clears the buffer.");
        LatticeGestures g = Steps.commands(new LatticeGestures(), "02460246");
        due.is("first error then", g.firstError(), 0);
        due.refuses(() -> Steps.withCommands("02460246"), "read once more", Due.ARGUMENT, h -> h.read());
        due.is("append then", g.append('4'), 1);
        due.is("read then", g.read(), 1);
        due.row("its stroke alone", Steps.strokeOf(g, 1), 4);
        due.is("length then", g.clearBuffer(), 0);
    }

    private static void readWith10Commands() {
        due.promise(8);
        due.sentence("Throws `IllegalStateException` if there are 10 commands");
        due.refuses(() -> Steps.type(Steps.tenCommands(), "0246"), "an eleventh", Due.STATE, g -> g.read());
        LatticeGestures nine = Steps.tenCommands();
        nine.forget(9);
        due.is("a tenth", Steps.type(nine, "0246").read(), 9);
        due.is("commands", nine.count(5), 10);
    }

    private static void readApartFromCommands() {
        due.promise(8);
        due.sentence("or its distance from a command is at most 2 times setting 4");
        due.refuses(() -> Steps.type(Steps.withCommands("0"), "0"), "read at 0", Due.STATE, g -> g.read());
        due.refuses(() -> Steps.type(Steps.withCommands("0"), "2"), "read at 4", Due.STATE, g -> g.read());
        due.is("read at 5", Steps.type(Steps.withCommands("04"), "1").read(), 1);
        due.refuses(() -> Steps.type(Steps.withCommands("2", "6", "04"), "3"), "near the first one", Due.STATE,
                g -> g.read());
        due.refuses(() -> Steps.type(Steps.withCommands("2", "6", "04"), "14"), "near the last one", Due.STATE,
                g -> g.read());
        due.refuses(() -> Steps.type(forgiving("0", 0, 1, 1), "0"), "read at 0 and 0", Due.STATE, g -> g.read());
        due.is("read at 1 and 0", Steps.type(forgiving("0", 0, 1, 1), "1").read(), 1);
        due.refuses(() -> Steps.type(forgiving("0", 20, 9, 8), "040404"), "read at 40 and 20", Due.STATE,
                g -> g.read());
        due.is("read at 41 and 20", Steps.type(forgiving("1", 20, 9, 8), "04040").read(), 1);
    }

    private static void readWhereSeveralApply() {
        due.promise(8);
        due.sentence("If several exceptions apply, the one that is named first in the throws clause is thrown.");
        due.refuses(Steps::tenCommands, "no text and 10 commands", Due.ARGUMENT, g -> g.read());
        due.refuses(() -> Steps.type(Steps.tenCommands(), "00"), "no stroke and 10 commands", Due.ARGUMENT,
                g -> g.read());
        due.refuses(() -> Steps.type(Steps.withCommands("0"), "08"), "no stroke, that begins near one", Due.ARGUMENT,
                g -> g.read());
    }

    private static void readIsUndoable() {
        due.promise(8);
        due.sentence("Adds a command with the stroke in the buffer, and clears the buffer. Undoable.");
        due.saves(() -> Steps.drawn("02"), "read", g -> Steps.commands(g, "02460246"));
        LatticeGestures g = Steps.withCommands("02460246");
        g.undo();
        due.is("the text does not come back", g.clearBuffer(), 0);
        due.is("the command is away", g.count(5), 0);
        due.is("the path stays", Steps.commands(Steps.drawn("02"), "4").count(0), 3);
    }

    // ---- forget

    private static void forgetNoCommand() {
        due.promise(9);
        due.sentence("Throws `IndexOutOfBoundsException` if there is no such command");
        for (int command : new int[] {0, -1, 1, MIN, MAX}) {
            due.refuses(Steps::sixSaved, "forget " + command + " of none", Due.INDEX, g -> g.forget(command));
        }
        for (int command : new int[] {-1, 2, 3, 9, 10, MIN, MAX}) {
            due.refuses(CommandEdgesTest::twoAt6, "forget " + command + " of 2", Due.INDEX, g -> g.forget(command));
        }
        due.refuses(Steps::tenCommands, "forget 10 of 10", Due.INDEX, g -> g.forget(10));
        due.is("forget 9 of 10", Steps.tenCommands().forget(9), 9);
        due.is("forget 0 of 10", Steps.tenCommands().forget(0), 9);
        due.is("forget 0 of 1", Steps.withCommands("0").forget(0), 0);
    }

    private static void forgetRenumbers() {
        due.promise(9);
        due.sentence("(if one is removed, those behind it have numbers that are less by 1)");
        int[] first = {0, 1, 2, 3, 4, 5, 6, 7, 0, 0};
        for (int removed = 0; removed < 10; removed++) {
            LatticeGestures g = Steps.tenCommands();
            g.forget(removed);
            for (int command = 0; command < 9; command++) {
                int before = command < removed ? command : command + 1;
                due.is("first direction of " + command, g.strokeOf(command, 0), first[before]);
            }
            due.is("the last one", g.strokeOf(8, 1), removed == 9 ? 2 : 4);
        }
        LatticeGestures all = Steps.tenCommands();
        for (int left = 9; left >= 0; left--) {
            due.is("forget the first one", all.forget(0), left);
        }
        due.is("then a new one is number", Steps.type(all, "6").read(), 0);
    }

    private static void forgetIsUndoable() {
        due.promise(9);
        due.sentence("Removes a command. Undoable.");
        for (int command = 0; command < 3; command++) {
            int removed = command;
            due.saves(() -> Steps.draw(Steps.withCommands("0246", "4", "71"), "0"), "forget " + removed,
                    g -> g.forget(removed));
        }
        due.saves(() -> Steps.withCommands("0246"), "forget the only one", g -> g.forget(0));
    }

    // ---- set

    private static void settingsAtFirst() {
        due.promise(10);
        due.sentence("0: the shortest run, 1 to 9, at first 2; 1: the longest cut corner, 0 to 9, at first 2; "
                + "2: the cost of an eighth of a turn, 1 to 9, at first 2; 3: the cost of a direction that is left out "
                + "or put in, 1 to 9, at first 3; 4: what is forgiven, 0 to 20, at first 2.");
        int[] first = {2, 2, 2, 3, 2};
        for (int setting = 0; setting < 5; setting++) {
            LatticeGestures g = new LatticeGestures();
            due.is("setting at first", g.setting(setting), first[setting]);
            due.is("set the least value", g.set(setting, LEAST[setting]), first[setting]);
            due.is("setting then", g.setting(setting), LEAST[setting]);
            due.is("set the greatest value", g.set(setting, GREATEST[setting]), LEAST[setting]);
            due.is("setting then", g.setting(setting), GREATEST[setting]);
            for (int other = 0; other < 5; other++) {
                due.is("no other one is changed", g.setting(other), other == setting ? GREATEST[other] : first[other]);
            }
        }
    }

    private static void setSettings() {
        due.promise(10);
        due.sentence("Throws `IndexOutOfBoundsException` if there is no such setting");
        for (int setting : new int[] {-1, 5, 6, MIN, MAX}) {
            for (int value : new int[] {2, 0, -1, 21, MIN, MAX}) {
                due.refuses(CommandEdgesTest::twoAt6, "set " + setting + " to " + value, Due.INDEX,
                        g -> g.set(setting, value));
            }
        }
    }

    private static void setValues() {
        due.promise(10);
        due.sentence("Throws `IllegalArgumentException` if value is out of range");
        for (int setting = 0; setting < 5; setting++) {
            int which = setting;
            for (int value : new int[] {LEAST[setting] - 1, GREATEST[setting] + 1, -1, 21, MIN, MAX}) {
                due.refuses(Steps::sixSaved, "set " + which + " to " + value, Due.ARGUMENT, g -> g.set(which, value));
            }
        }
    }

    private static void setWhereSeveralApply() {
        due.promise(10);
        due.sentence("If several exceptions apply, the one that is named first in the throws clause is thrown.");
        due.refuses(CommandEdgesTest::twoAt6, "21 would be too much as well", Due.ARGUMENT, g -> g.set(4, 21));
        due.refuses(CommandEdgesTest::twoAt6, "0 would be too cheap as well", Due.ARGUMENT, g -> g.set(2, 0));
        due.refuses(CommandEdgesTest::twoAt6, "0 would be too cheap as well", Due.ARGUMENT, g -> g.set(3, 0));
        due.refuses(CommandEdgesTest::twoAt6, "no setting and no value", Due.INDEX, g -> g.set(5, 21));
        due.refuses(CommandEdgesTest::twoAt6, "no setting and no value", Due.INDEX, g -> g.set(-1, -1));
    }

    private static void setForgivenTooMuch() {
        due.promise(10);
        due.sentence("Throws `IllegalStateException` if two commands would have a distance of at most 2 times setting "
                + "4 then");
        due.refuses(CommandEdgesTest::twoAt6, "at 6, 3", Due.STATE, g -> g.set(4, 3));
        due.refuses(CommandEdgesTest::twoAt6, "at 6, 20", Due.STATE, g -> g.set(4, 20));
        due.is("at 6, 2", twoAt6().set(4, 2), 2);
        due.is("at 6, 0", twoAt6().set(4, 0), 2);
        due.is("at 7, 3", Steps.withCommands("04", "2").set(4, 3), 2);
        due.refuses(() -> Steps.withCommands("04", "2"), "at 7, 4", Due.STATE, g -> g.set(4, 4));
        due.is("with one command, 20", Steps.withCommands("0").set(4, 20), 2);
        due.is("without commands, 20", new LatticeGestures().set(4, 20), 2);
    }

    private static void setTurnsTooCheap() {
        due.promise(10);
        due.sentence("Throws `IllegalStateException` if two commands would have a distance of at most 2 times setting "
                + "4 then");
        due.is("an eighth at 3, 1 forgiven", oneEighth().set(2, 3), 9);
        due.refuses(CommandEdgesTest::oneEighth, "an eighth at 2, 1 forgiven", Due.STATE, g -> g.set(2, 2));
        due.refuses(CommandEdgesTest::oneEighth, "an eighth at 1, 1 forgiven", Due.STATE, g -> g.set(2, 1));
    }

    /** Two commands with one eighth between them, at 9, with 1 forgiven. */
    private static LatticeGestures oneEighth() {
        LatticeGestures g = new LatticeGestures();
        g.set(2, 9);
        g.set(3, 9);
        g.set(4, 1);
        return Steps.commands(g, "0", "1");
    }

    private static void setGapsTooCheap() {
        due.promise(10);
        due.sentence("Throws `IllegalStateException` if two commands would have a distance of at most 2 times setting "
                + "4 then");
        due.is("a direction at 3, 1 forgiven", oneGap().set(3, 3), 9);
        due.refuses(CommandEdgesTest::oneGap, "a direction at 2, 1 forgiven", Due.STATE, g -> g.set(3, 2));
        due.refuses(CommandEdgesTest::oneGap, "a direction at 1, 1 forgiven", Due.STATE, g -> g.set(3, 1));
        due.is("runs do not matter", oneGap().set(0, 9), 2);
        due.is("corners do not matter", oneGap().set(1, 9), 2);
    }

    /** Two commands, one of which has one direction more, at 9, with 1 forgiven. */
    private static LatticeGestures oneGap() {
        LatticeGestures g = new LatticeGestures();
        g.set(3, 9);
        g.set(4, 1);
        return Steps.commands(g, "04", "0");
    }

    private static void setOfAnyTwoCommands() {
        due.promise(10);
        due.sentence("(So no stroke is within setting 4 of two commands.)");
        // The least distance, 6, is that of two commands; the others are 9 or more from one another.
        String[][] rows = {{"0", "3", "4040", "371737"}, {"4040", "0", "3", "371737"}, {"0", "371737", "4040", "3"},
                {"4040", "371737", "0", "3"}, {"0", "4040", "371737", "3"}, {"4040", "0", "371737", "3"}};
        for (String[] strokes : rows) {
            due.refuses(() -> Steps.withCommands(strokes), "forgive 3", Due.STATE, g -> g.set(4, 3));
            LatticeGestures apart = Steps.withCommands(strokes);
            due.is("least distance", apart.count(7), 6);
            due.is("forgive 2", apart.set(4, 2), 2);
        }
    }

    private static void setIsUndoable() {
        due.promise(10);
        due.sentence("Changes a setting. Undoable.");
        int[] first = {2, 2, 2, 3, 2};
        for (int setting = 0; setting < 5; setting++) {
            int which = setting;
            due.saves(() -> Steps.draw(Steps.withCommands("0"), "71"), "set " + which, g -> g.set(which, 9));
            due.saves(() -> Steps.draw(Steps.withCommands("0"), "71"), "set " + which + " to what it is",
                    g -> g.set(which, first[which]));
        }
        LatticeGestures g = Steps.withPath(5, 5, 9, 5, 9, 8, 5, 8);
        g.set(0, 4);
        due.row("runs are forgiven anew at once", Steps.stroke(g), 0, 4);
        g.set(0, 3);
        due.row("and again", Steps.stroke(g), 0, 2, 4);
    }
}
