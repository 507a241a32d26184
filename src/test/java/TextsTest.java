/** Promises 11 to 14: append, clearBuffer, firstError, undo. */
public final class TextsTest {
    private static final int MIN = Integer.MIN_VALUE;
    private static final int MAX = Integer.MAX_VALUE;
    private static final Due due = new Due("TextsTest");

    public static void main(String[] args) {
        append();
        clearBuffer();
        firstError();
        undo();
        undoOfAll();
        due.end();
    }

    private static void append() {
        due.promise(11);
        LatticeGestures g = new LatticeGestures();
        due.is("the least code", g.append(33), 1);
        due.is("the greatest code", g.append(126), 2);
        for (int code : new int[] {32, 127, 0, -1, MIN, MAX, 48 + 65536}) {
            due.refused(g, "append " + code, Due.ARGUMENT, () -> g.append(code));
        }
        for (int length = 3; length <= 60; length++) {
            due.is("append", g.append('0'), length);
        }
        due.refused(g, "character 61", Due.STATE, () -> g.append('0'));
        due.refused(g, "character 61, code wrong too", Due.ARGUMENT, () -> g.append(32));
        due.is("is not undoable", g.count(8), 0);
        due.is("length", g.clearBuffer(), 60);
        due.is("append anew", g.append('0'), 1);
    }

    private static void clearBuffer() {
        due.promise(12);
        LatticeGestures g = new LatticeGestures();
        due.is("clear an empty one", g.clearBuffer(), 0);
        Steps.type(g, "x01");
        due.is("clear", g.clearBuffer(), 3);
        due.is("clear again", g.clearBuffer(), 0);
        due.is("no error is left", g.firstError(), 0);
        due.is("is not undoable", g.count(8), 0);
        due.is("read what comes then", Steps.type(g, "01").read(), 0);
        due.row("nothing of the old text", Steps.strokeOf(g, 0), 0, 1);
    }

    private static void firstError() {
        due.promise(13);
        Object[][] texts = {{"", 0}, {"0", 1}, {"7", 1}, {"8", 0}, {"/", 0}, {"01234567", 8}, {"012345670", 8},
                {"0123456701", 8}, {"00", 1}, {"0100", 3}, {"01x0", 2}, {"01!!", 2}, {"07~", 2}, {"0770", 2},
                {"10101010", 8}, {"1010101010101", 8}, {"0128", 3}, {"-1", 0}, {"01234569", 7}, {"01234566", 7}};
        for (Object[] text : texts) {
            LatticeGestures g = Steps.type(new LatticeGestures(), (String) text[0]);
            due.is("first error of '" + text[0] + "'", g.firstError(), (Integer) text[1]);
            due.is("nothing is changed", g.clearBuffer(), ((String) text[0]).length());
        }
    }

    private static void undo() {
        due.promise(14);
        LatticeGestures g = new LatticeGestures();
        due.refused(g, "undo of nothing", Due.STATE, () -> g.undo());
        for (int points = 1; points <= 8; points++) {
            g.point(points, points);
        }
        due.is("at most 6 are saved", g.count(8), 6);
        for (int left = 5; left >= 0; left--) {
            due.is("undo", g.undo(), left);
            due.is("points then", g.count(0), left + 2);
        }
        due.refused(g, "undo of too much", Due.STATE, () -> g.undo());
        due.row("the oldest were dropped", Steps.points(g), 1, 1, 2, 2);
        due.is("go on", g.point(9, 9), 3);
        due.is("undo that", g.undo(), 0);
        due.row("as before", Steps.points(g), 1, 1, 2, 2);
        due.is("a call that was refused saves nothing", g.count(8), 0);
    }

    private static void undoOfAll() {
        LatticeGestures g = Steps.withCommands("04", "26");
        Steps.path(g, 3, 3, 9, 3);
        Steps.type(g, "62");
        int saved = g.count(8);
        int[] readings = Steps.readings(g);
        g.set(0, 9);
        g.forget(0);
        Steps.type(g, "0");
        g.turn(1);
        g.undo();
        g.undo();
        due.is("undo", g.undo(), saved - 1);
        due.row("settings", Steps.settings(g), 2, 2, 2, 3, 2);
        due.row("first command", Steps.strokeOf(g, 0), 0, 4);
        due.row("second command", Steps.strokeOf(g, 1), 2, 6);
        due.row("path", Steps.points(g), 3, 3, 9, 3);
        due.row("readings", Steps.readings(g), readings);
        due.is("the buffer is as it was last", g.clearBuffer(), 3);
        LatticeGestures many = new LatticeGestures();
        for (int round = 0; round < 20; round++) {
            many.point(round, round);
            many.begin();
            many.undo();
        }
        due.is("many rounds", many.count(8), 5);
        many.undo();
        due.is("one point less", many.count(0), 19);
    }
}
