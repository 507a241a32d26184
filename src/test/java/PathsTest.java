/** Promises 1 to 6: a new object, point, go, back, begin, turn. */
public final class PathsTest {
    private static final int MIN = Integer.MIN_VALUE;
    private static final int MAX = Integer.MAX_VALUE;
    private static final Due due = new Due("PathsTest");

    public static void main(String[] args) {
        newObject();
        point();
        go();
        goRefused();
        back();
        begin();
        turn();
        turnRefused();
        due.end();
    }

    private static void newObject() {
        due.promise(1);
        LatticeGestures g = new LatticeGestures();
        due.row("counts", Steps.counts(g), 0, 0, 0, 0, 0, 0, 0, -1, 0);
        due.row("settings", Steps.settings(g), 2, 2, 2, 3, 2);
        due.row("readings", Steps.readings(g), -1, -1, -1, 0, -1);
        due.is("clearBuffer", g.clearBuffer(), 0);
        due.is("NONE", LatticeGestures.NONE, -1);
        g.point(1, 1);
        due.is("another object's points", new LatticeGestures().count(0), 0);
    }

    private static void point() {
        due.promise(2);
        LatticeGestures g = new LatticeGestures();
        due.is("first point", g.point(0, 31), 1);
        due.is("second point", g.point(31, 0), 2);
        due.is("the same point again", g.point(31, 0), 3);
        due.row("points", Steps.points(g), 0, 31, 31, 0, 31, 0);
        due.is("saved states", g.count(8), 3);
        due.is("undo", g.undo(), 2);
        due.row("points after undo", Steps.points(g), 0, 31, 31, 0);
        int[][] wrong = {{-1, 0}, {0, -1}, {32, 0}, {0, 32}, {MIN, 5}, {5, MAX}};
        for (int[] xy : wrong) {
            due.refused(g, "point out of range", Due.ARGUMENT, () -> g.point(xy[0], xy[1]));
        }
        for (int points = 2; points < 40; points++) {
            due.is("one more point", g.point(points % 32, 3), points + 1);
        }
        due.refused(g, "point 41", Due.STATE, () -> g.point(1, 1));
        due.refused(g, "point 41 out of range", Due.ARGUMENT, () -> g.point(32, 1));
        due.is("saved states are at most 6", g.count(8), 6);
    }

    private static void go() {
        due.promise(3);
        LatticeGestures g = new LatticeGestures();
        due.is("go without points", g.go(1, 3), 3);
        due.row("0, 0 becomes a point", Steps.points(g), 0, 0, 1, 1, 2, 2, 3, 3);
        due.is("one undo takes all of it", g.undo(), 0);
        due.is("points after undo", g.count(0), 0);
        for (int direction = 3; direction <= 7; direction++) {
            LatticeGestures h = new LatticeGestures();
            due.is("go out of the corner", h.go(direction, 4), 0);
            due.row("0, 0 is a point all the same", Steps.points(h), 0, 0);
            due.is("saved also without a step", h.count(8), 1);
        }
        int[][] ends = {{12, 10}, {12, 12}, {10, 12}, {8, 12}, {8, 10}, {8, 8}, {10, 8}, {12, 8}};
        for (int direction = 0; direction < 8; direction++) {
            LatticeGestures h = Steps.withPath(10, 10);
            due.is("go in each direction", h.go(direction, 2), 2);
            due.is("points then", h.count(0), 3);
            due.is("x of the end", h.pointOf(2, 0), ends[direction][0]);
            due.is("y of the end", h.pointOf(2, 1), ends[direction][1]);
        }
        due.is("to the right edge", Steps.withPath(29, 5).go(0, 31), 2);
        due.is("to the left edge", Steps.withPath(3, 5).go(4, 31), 3);
        due.is("to the upper edge", Steps.withPath(3, 27).go(2, 31), 4);
        due.is("to the lower edge", Steps.withPath(3, 5).go(6, 31), 5);
        due.is("aslant to the nearer edge", Steps.withPath(29, 5).go(1, 31), 2);
        due.is("aslant to the other edge", Steps.withPath(3, 27).go(1, 31), 4);
        due.is("aslant down", Steps.withPath(9, 4).go(5, 31), 4);
        due.is("a whole side", new LatticeGestures().go(2, 31), 31);
    }

    private static void goRefused() {
        LatticeGestures g = Steps.withPath(5, 5);
        int[][] wrong = {{-1, 1}, {8, 1}, {0, 0}, {0, 32}, {0, -1}, {MIN, 1}, {MAX, 1}, {0, MIN}, {0, MAX}};
        for (int[] call : wrong) {
            due.refused(g, "go out of range", Due.ARGUMENT, () -> g.go(call[0], call[1]));
        }
        LatticeGestures full = new LatticeGestures();
        full.go(0, 31);
        due.is("up to 40 points", full.go(2, 8), 8);
        due.is("40 points", full.count(0), 40);
        due.refused(full, "go beyond 40 points", Due.STATE, () -> full.go(2, 1));
        due.refused(full, "wrong many with 40 points", Due.ARGUMENT, () -> full.go(2, 32));
        due.is("no step at 40 points is none too many", full.go(0, 5), 0);
        LatticeGestures near = new LatticeGestures();
        near.go(0, 31);
        near.go(2, 7);
        due.refused(near, "many counts as far as it leads", Due.STATE, () -> near.go(4, 2));
        due.is("39 points and 1", near.go(4, 1), 1);
    }

    private static void back() {
        due.promise(4);
        LatticeGestures g = Steps.withPath(1, 1, 2, 2, 3, 3, 4, 4);
        due.is("back 1", g.back(1), 3);
        due.row("the last one is away", Steps.points(g), 1, 1, 2, 2, 3, 3);
        due.is("the run is shorter at once", g.run(0, 1), 2);
        due.refused(g, "back 0", Due.ARGUMENT, () -> g.back(0));
        due.refused(g, "back by more than there are", Due.ARGUMENT, () -> g.back(4));
        due.refused(g, "back by less than 0", Due.ARGUMENT, () -> g.back(MIN));
        due.refused(g, "back by very many", Due.ARGUMENT, () -> g.back(MAX));
        due.is("back by all", g.back(3), 0);
        due.refused(g, "back without points", Due.ARGUMENT, () -> g.back(1));
        due.is("undo", g.undo(), 5);
        due.row("undone", Steps.points(g), 1, 1, 2, 2, 3, 3);
    }

    private static void begin() {
        due.promise(5);
        LatticeGestures g = Steps.withCommands("02");
        Steps.type(Steps.path(g, 1, 1, 5, 1), "04");
        due.is("begin", g.begin(), 2);
        due.row("counts", Steps.counts(g), 0, 0, 0, 0, 0, 1, 2, -1, 4);
        due.is("begin again", g.begin(), 0);
        due.is("saves also if it changes nothing", g.count(8), 5);
        due.is("the buffer stays", g.clearBuffer(), 2);
        g.undo();
        g.undo();
        due.row("undone", Steps.points(g), 1, 1, 5, 1);
    }

    private static void turn() {
        due.promise(6);
        LatticeGestures g = Steps.withPath(10, 10, 14, 10, 14, 10, 16, 12);
        due.is("turn 1", g.turn(1), 4);
        due.row("turned by 1", Steps.points(g), 10, 10, 14, 14, 14, 14, 14, 16);
        due.row("the stroke is turned at once", Steps.stroke(g), 1, 2);
        due.is("turn 7", g.turn(7), 4);
        due.row("turned back", Steps.points(g), 10, 10, 14, 10, 14, 10, 16, 12);
        due.is("turn 4", g.turn(4), 4);
        due.row("turned by 4", Steps.points(g), 10, 10, 6, 10, 6, 10, 4, 8);
        g.undo();
        due.row("undone", Steps.points(g), 10, 10, 14, 10, 14, 10, 16, 12);
        g.turn(3);
        due.row("turned by 3", Steps.points(g), 10, 10, 6, 14, 6, 14, 4, 14);
        LatticeGestures empty = new LatticeGestures();
        due.is("turn without points", empty.turn(5), 0);
        due.is("is saved", empty.count(8), 1);
        LatticeGestures corner = Steps.withPath(0, 0, 31, 0);
        corner.turn(2);
        due.row("to the very edge", Steps.points(corner), 0, 0, 0, 31);
    }

    private static void turnRefused() {
        LatticeGestures g = Steps.withPath(10, 10, 14, 10);
        for (int eighths : new int[] {0, 8, -1, MIN, MAX}) {
            due.refused(g, "turn out of range", Due.ARGUMENT, () -> g.turn(eighths));
        }
        LatticeGestures low = Steps.withPath(0, 0, 31, 0);
        for (int eighths = 3; eighths < 8; eighths++) {
            int by = eighths;
            due.refused(low, "turned below 0", Due.STATE, () -> low.turn(by));
        }
        LatticeGestures high = Steps.withPath(28, 28, 28, 24);
        for (int eighths = 1; eighths <= 6; eighths++) {
            int by = eighths;
            if (by == 2 || by == 4 || by == 3 || by == 5) {
                due.refused(high, "turned above 31", Due.STATE, () -> high.turn(by));
            }
        }
        LatticeGestures passing = Steps.withPath(2, 2, 6, 2, 3, 2);
        due.refused(passing, "a point on the way is out", Due.STATE, () -> passing.turn(4));
        LatticeGestures uneven = Steps.withPath(10, 10, 12, 11);
        due.refused(uneven, "unlike differences", Due.STATE, () -> uneven.turn(2));
        due.refused(uneven, "out of range first", Due.ARGUMENT, () -> uneven.turn(8));
        LatticeGestures even = Steps.withPath(10, 10, 12, 8);
        due.is("differences like but for the sign", even.turn(2), 2);
        due.row("turned", Steps.points(even), 10, 10, 12, 12);
    }
}
