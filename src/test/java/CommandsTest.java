/** Promises 7 to 10: learn, read, forget, set. */
public final class CommandsTest {
    private static final int MIN = Integer.MIN_VALUE;
    private static final int MAX = Integer.MAX_VALUE;
    private static final Due due = new Due("CommandsTest");

    public static void main(String[] args) {
        learn();
        learnRefused();
        read();
        readRefused();
        forget();
        set();
        setRefused();
        due.end();
    }

    private static void learn() {
        due.promise(7);
        LatticeGestures g = Steps.withPath(5, 5, 9, 5, 9, 9);
        due.is("learn", g.learn(), 0);
        due.row("its stroke", Steps.strokeOf(g, 0), 0, 2);
        due.is("the path stays", g.count(0), 3);
        due.refused(g, "learn the same again", Due.STATE, () -> g.learn());
        g.begin();
        Steps.path(g, 9, 9, 5, 9, 5, 5);
        due.is("learn another one", g.learn(), 1);
        due.row("its stroke", Steps.strokeOf(g, 1), 4, 6);
        due.is("undo", g.undo(), 5);
        due.is("commands after undo", g.count(5), 1);
        due.row("the other one stays", Steps.strokeOf(g, 0), 0, 2);
    }

    private static void learnRefused() {
        LatticeGestures empty = new LatticeGestures();
        due.refused(empty, "learn without points", Due.STATE, () -> empty.learn());
        LatticeGestures still = Steps.withPath(4, 4, 4, 4);
        due.refused(still, "learn without runs", Due.STATE, () -> still.learn());
        // Strokes of 8 and of 9 directions.
        LatticeGestures g = new LatticeGestures();
        int[] directions = {0, 2, 0, 2, 0, 2, 0, 2};
        for (int direction : directions) {
            g.go(direction, 2);
        }
        due.is("learn 8 directions", g.learn(), 0);
        g.forget(0);
        g.go(0, 2);
        due.is("9 directions", g.count(2), 9);
        due.refused(g, "learn 9 directions", Due.STATE, () -> g.learn());
        // Distances 4 and 5: 0 to 2 is two eighths, a 4 behind it costs 3, and 2 * 2 are forgiven.
        LatticeGestures near = Steps.path(Steps.withCommands("02"), 5, 5, 9, 5, 9, 9, 5, 5);
        due.is("distance 3", near.distance(0, -1), 3);
        due.refused(near, "learn too near", Due.STATE, () -> near.learn());
        LatticeGestures at = Steps.path(Steps.withCommands("0"), 5, 5, 5, 9);
        due.is("distance 4", at.distance(0, -1), 4);
        due.refused(at, "learn just too near", Due.STATE, () -> at.learn());
        LatticeGestures far = Steps.path(Steps.withCommands("04"), 5, 5, 9, 9);
        due.is("distance 5", far.distance(0, -1), 5);
        due.is("learn just far enough", far.learn(), 1);
        LatticeGestures full = tenCommands();
        Steps.path(full, 5, 5, 9, 9, 5, 9, 5, 5);
        due.refused(full, "an eleventh command", Due.STATE, () -> full.learn());
        full.forget(9);
        due.is("a tenth command again", full.learn(), 9);
    }

    /** Ten commands that are far enough from one another with nothing forgiven. */
    private static LatticeGestures tenCommands() {
        LatticeGestures g = new LatticeGestures();
        g.set(4, 0);
        return Steps.commands(g, "0", "1", "2", "3", "4", "5", "6", "7", "02", "04");
    }

    private static void read() {
        due.promise(8);
        LatticeGestures g = Steps.type(new LatticeGestures(), "0246");
        due.is("read", g.read(), 0);
        due.row("its stroke", Steps.strokeOf(g, 0), 0, 2, 4, 6);
        due.is("the buffer is clear", g.clearBuffer(), 0);
        due.is("read one direction", Steps.type(g, "7").read(), 1);
        due.is("read 8 directions", Steps.type(g, "70707070").read(), 2);
        due.row("all 8", Steps.strokeOf(g, 2), 7, 0, 7, 0, 7, 0, 7, 0);
        due.is("saved", g.count(8), 3);
        Steps.type(g, "13");
        due.is("undo", g.undo(), 2);
        due.is("one command less", g.count(5), 2);
        due.is("undo leaves the buffer", g.clearBuffer(), 2);
    }

    private static void readRefused() {
        LatticeGestures g = Steps.withCommands("0");
        due.refused(g, "read an empty buffer", Due.ARGUMENT, () -> g.read());
        String[] texts = {"8", "/", "08", "00", "0110", "012345670", "0 1".replace(" ", "x"), "A", "~", "0-"};
        for (String text : texts) {
            Steps.type(g, text);
            due.refused(g, "read " + text, Due.ARGUMENT, () -> g.read());
            due.is("the buffer stays", g.clearBuffer(), text.length());
        }
        Steps.type(g, "2");
        due.refused(g, "read at distance 4", Due.STATE, () -> g.read());
        due.is("the buffer stays", g.clearBuffer(), 1);
        due.is("read at distance 6", Steps.type(g, "3").read(), 1);
        LatticeGestures full = tenCommands();
        due.refused(full, "no text with 10 commands", Due.ARGUMENT, () -> full.read());
        Steps.type(full, "0404");
        due.refused(full, "an eleventh command", Due.STATE, () -> full.read());
        due.is("the buffer stays", full.clearBuffer(), 4);
    }

    private static void forget() {
        due.promise(9);
        LatticeGestures g = Steps.withCommands("04", "26", "0426");
        for (int command : new int[] {-1, 3, MIN, MAX}) {
            due.refused(g, "forget no command", Due.INDEX, () -> g.forget(command));
        }
        due.is("forget the middle one", g.forget(1), 2);
        due.row("ahead of it", Steps.strokeOf(g, 0), 0, 4);
        due.row("behind it", Steps.strokeOf(g, 1), 0, 4, 2, 6);
        due.is("directions", g.count(6), 6);
        due.refused(g, "forget what moved", Due.INDEX, () -> g.forget(2));
        due.is("undo", g.undo(), 3);
        due.row("it is there again", Steps.strokeOf(g, 1), 2, 6);
        due.row("and the one behind", Steps.strokeOf(g, 2), 0, 4, 2, 6);
        g.forget(0);
        due.row("the first one moved", Steps.strokeOf(g, 0), 2, 6);
        g.forget(1);
        due.is("forget the last one", g.forget(0), 0);
        LatticeGestures none = new LatticeGestures();
        due.refused(none, "forget without commands", Due.INDEX, () -> none.forget(0));
    }

    private static void set() {
        due.promise(10);
        LatticeGestures g = new LatticeGestures();
        int[] first = {2, 2, 2, 3, 2};
        int[] least = {1, 0, 1, 1, 0};
        int[] most = {9, 9, 9, 9, 20};
        for (int setting = 0; setting < 5; setting++) {
            due.is("set the least", g.set(setting, least[setting]), first[setting]);
            due.is("set the greatest", g.set(setting, most[setting]), least[setting]);
            due.is("set the same", g.set(setting, most[setting]), most[setting]);
        }
        due.row("settings", Steps.settings(g), 9, 9, 9, 9, 20);
        due.is("saved", g.count(8), 6);
        due.is("undo", g.undo(), 5);
        g.undo();
        due.row("undone", Steps.settings(g), 9, 9, 9, 9, 0);
        // What is forgiven follows at once.
        LatticeGestures runs = Steps.withPath(5, 5, 9, 5, 9, 8, 5, 8);
        due.row("three runs", Steps.stroke(runs), 0, 2, 4);
        runs.set(0, 4);
        due.row("the short one is dropped", Steps.stroke(runs), 0, 4);
    }

    private static void setRefused() {
        LatticeGestures g = Steps.withCommands("0", "3");
        int[][] wrong = {{0, 0}, {0, 10}, {1, -1}, {1, 10}, {2, 0}, {2, 10}, {3, 0}, {3, 10}, {4, -1}, {4, 21},
                {0, MIN}, {4, MAX}};
        for (int[] call : wrong) {
            due.refused(g, "value out of range", Due.ARGUMENT, () -> g.set(call[0], call[1]));
        }
        for (int setting : new int[] {-1, 5, MIN, MAX}) {
            due.refused(g, "no such setting", Due.INDEX, () -> g.set(setting, 2));
            due.refused(g, "no such setting, value wrong too", Due.INDEX, () -> g.set(setting, 99));
        }
        // The distance of 0 and 3 is 6, by three eighths at 2, or by leaving out and putting in at 3.
        due.is("distance", g.distance(0, 1), 6);
        due.refused(g, "forgive 3", Due.STATE, () -> g.set(4, 3));
        due.refused(g, "an eighth at 1", Due.STATE, () -> g.set(2, 1));
        due.refused(g, "a direction at 2", Due.STATE, () -> g.set(3, 2));
        due.is("an eighth at 9", g.set(2, 9), 2);
        due.is("distance still", g.distance(0, 1), 6);
        due.refused(g, "forgive 3 still", Due.STATE, () -> g.set(4, 3));
        due.is("a direction at 4", g.set(3, 4), 3);
        due.is("distance then", g.distance(0, 1), 8);
        due.is("forgive 3 then", g.set(4, 3), 2);
        due.refused(g, "forgive 4", Due.STATE, () -> g.set(4, 4));
        due.is("runs do not matter for that", g.set(0, 9), 2);
        due.is("corners neither", g.set(1, 0), 2);
        LatticeGestures one = Steps.withCommands("0");
        due.is("one command alone", one.set(4, 20), 2);
    }
}
