/** The edges of the terms about paths and of promises 1 to 6, sentence by sentence of the document. */
public final class PathEdgesTest {
    private static final int NONE = LatticeGestures.NONE;
    private static final int MIN = Integer.MIN_VALUE;
    private static final int MAX = Integer.MAX_VALUE;
    private static final Due due = new Due("PathEdgesTest");

    public static void main(String[] args) {
        nothingToReturn();
        newObject();
        newObjectsAreApart();
        pathOf40Points();
        directionsOfSteps();
        lengthsOfSteps();
        noStepToTheSamePoint();
        runsOverSamePoints();
        longestRun();
        shortRuns();
        pointArguments();
        pointBeyond40();
        goArguments();
        goWithoutPoints();
        goWithinTheLattice();
        goAtMostMany();
        goBeyond40();
        backArguments();
        backToNothing();
        begin();
        turnArguments();
        turnModulo8();
        turnToTheEdge();
        turnOfUnlikeDifferences();
        turnOfLengths();
        turnOfFewPoints();
        due.end();
    }

    // ---- the constant and a new object

    private static void nothingToReturn() {
        due.promise(1);
        due.sentence("`NONE = -1`: There is nothing to return.");
        due.is("NONE", LatticeGestures.NONE, -1);
    }

    private static void newObject() {
        due.promise(1);
        due.sentence("Creates an empty path, without commands, with an empty buffer.");
        LatticeGestures g = new LatticeGestures();
        due.row("counts", Steps.counts(g), 0, 0, 0, 0, 0, 0, 0, NONE, 0);
        due.row("settings", Steps.settings(g), 2, 2, 2, 3, 2);
        due.row("readings", Steps.readings(g), NONE, NONE, NONE, 0, NONE);
        due.is("against", g.against(), NONE);
        due.is("ifPoint", g.ifPoint(0, 0), NONE);
        due.is("first error", g.firstError(), 0);
        due.refuses(LatticeGestures::new, "a point", Due.INDEX, h -> h.pointOf(0, 0));
        due.refuses(LatticeGestures::new, "a command", Due.INDEX, h -> h.strokeOf(0, 0));
        due.refuses(LatticeGestures::new, "the empty buffer", Due.ARGUMENT, h -> h.read());
        due.refuses(LatticeGestures::new, "undo", Due.STATE, h -> h.undo());
        due.is("length of the buffer", g.clearBuffer(), 0);
    }

    private static void newObjectsAreApart() {
        due.promise(1);
        due.sentence("Creates an empty path, without commands, with an empty buffer.");
        LatticeGestures fresh = new LatticeGestures();
        LatticeGestures used = Steps.type(Steps.drawn("02"), "0");
        used.learn();
        used.set(0, 9);
        due.row("counts of the one", Steps.counts(fresh), 0, 0, 0, 0, 0, 0, 0, NONE, 0);
        due.row("settings of the one", Steps.settings(fresh), 2, 2, 2, 3, 2);
        due.is("buffer of the one", fresh.clearBuffer(), 0);
        due.is("buffer of the other", used.clearBuffer(), 1);
        due.is("commands of a third", new LatticeGestures().count(5), 0);
    }

    // ---- terms: paths and runs

    private static void pathOf40Points() {
        due.promise(2);
        due.sentence("A path is a row of at most 40 points, each with x and y of 0 to 31; at first it is empty.");
        LatticeGestures g = new LatticeGestures();
        due.is("points at first", g.count(0), 0);
        for (int point = 0; point < 40; point++) {
            g.point(point % 2 * 31, point / 2 % 2 * 31);
        }
        due.is("points at last", g.count(0), 40);
        for (int point = 0; point < 40; point++) {
            due.is("x of point " + point, g.pointOf(point, 0), point % 2 * 31);
            due.is("y of point " + point, g.pointOf(point, 1), point / 2 % 2 * 31);
        }
        due.refuses(Steps::fullPath, "one more", Due.STATE, h -> h.point(31, 31));
    }

    private static void directionsOfSteps() {
        due.promise(15);
        due.sentence("its direction is 0 to 7, by the signs of the differences of x and y: 0 (+, 0), 1 (+, +), "
                + "2 (0, +), 3 (-, +), 4 (-, 0), 5 (-, -), 6 (0, -), 7 (+, -)");
        int[][] to = {{1, 0}, {1, 1}, {0, 1}, {-1, 1}, {-1, 0}, {-1, -1}, {0, -1}, {1, -1}};
        for (int direction = 0; direction < 8; direction++) {
            int x = to[direction][0];
            int y = to[direction][1];
            isDirection(direction, x, y);
            isDirection(direction, 15 * x, 15 * y);
            isDirection(direction, 15 * x, y);
            isDirection(direction, x, 15 * y);
        }
        due.is("right along the whole", Steps.withPath(0, 0, 31, 0).pointOf(1, 2), 0);
        due.is("left along the whole", Steps.withPath(31, 31, 0, 31).pointOf(1, 2), 4);
        due.is("down along the whole", Steps.withPath(31, 31, 31, 0).pointOf(1, 2), 6);
        due.is("down by 1 along the whole", Steps.withPath(0, 31, 31, 30).pointOf(1, 2), 7);
    }

    private static void isDirection(int direction, int x, int y) {
        LatticeGestures g = Steps.withPath(15, 15, 15 + x, 15 + y);
        due.is("direction by " + x + ", " + y, g.pointOf(1, 2), direction);
    }

    private static void lengthsOfSteps() {
        due.promise(15);
        due.sentence("its length is the greater one of both differences, without their signs.");
        int[][] steps = {{0, 0, 1, 0, 1}, {0, 0, 0, 1, 1}, {1, 1, 0, 1, 1}, {1, 1, 1, 0, 1}, {0, 0, 31, 0, 31},
                {31, 0, 0, 0, 31}, {0, 31, 0, 0, 31}, {31, 31, 0, 0, 31}, {31, 31, 0, 30, 31}, {0, 0, 30, 31, 31},
                {5, 5, 3, 12, 7}, {5, 12, 12, 11, 7}, {9, 9, 6, 6, 3}};
        for (int[] step : steps) {
            LatticeGestures g = Steps.withPath(step[0], step[1], step[2], step[3]);
            due.is("length from " + step[0] + ", " + step[1], g.pointOf(1, 3), step[4]);
            due.is("length of that run", g.run(0, 1), step[4]);
        }
    }

    private static void noStepToTheSamePoint() {
        due.promise(15);
        due.sentence("A step goes from a point to the next one, if that is another one");
        LatticeGestures g = Steps.withPath(0, 0, 0, 0, 31, 31, 31, 31, 31, 31);
        for (int place : new int[] {0, 1, 3, 4}) {
            due.is("direction to " + place, g.pointOf(place, 2), NONE);
            due.is("length to " + place, g.pointOf(place, 3), 0);
        }
        due.is("direction to another one", g.pointOf(2, 2), 1);
        due.is("runs", g.count(1), 1);
    }

    private static void runsOverSamePoints() {
        due.promise(16);
        due.sentence("(points that are the same as the one ahead of them do not matter)");
        LatticeGestures g = Steps.withPath(3, 3, 3, 3, 5, 3, 5, 3, 5, 3, 6, 3, 6, 3);
        due.row("directions, same points in front, between and behind", Steps.runs(g, 0), 0);
        due.row("lengths", Steps.runs(g, 1), 3);
        Steps.path(g, 6, 5, 6, 5);
        due.row("directions with another one", Steps.runs(g, 0), 0, 2);
        due.row("lengths with another one", Steps.runs(g, 1), 3, 2);
        LatticeGestures still = new LatticeGestures();
        for (int point = 0; point < 40; point++) {
            still.point(7, 7);
        }
        due.is("runs of 40 same points", still.count(1), 0);
        due.is("run of 40 same points", still.run(0, 0), NONE);
        due.is("their stroke", still.stroke(0), NONE);
    }

    private static void longestRun() {
        due.promise(16);
        due.sentence("A run is a longest possible row of steps that follow one another with the same direction");
        LatticeGestures one = new LatticeGestures();
        one.go(2, 31);
        due.row("31 steps of one direction", Steps.runs(one, 0), 2);
        due.row("their length", Steps.runs(one, 1), 31);
        LatticeGestures unlike = Steps.withPath(0, 0, 1, 9, 9, 10, 11, 12);
        due.row("one direction by the signs alone", Steps.runs(unlike, 0), 1);
        due.row("the sum of unlike lengths", Steps.runs(unlike, 1), 9 + 8 + 2);
        LatticeGestures parted = Steps.withPath(0, 0, 5, 0, 4, 0, 9, 0);
        due.row("the same direction, but not at once", Steps.runs(parted, 0), 0, 4, 0);
        due.is("the most runs", Steps.fullPath().count(1), 39);
        due.is("the last of them", Steps.fullPath().run(38, 0), 4);
        due.is("behind the last of them", Steps.fullPath().run(39, 0), NONE);
    }

    private static void shortRuns() {
        due.promise(16);
        due.sentence("A run is short if it is shorter than setting 0.");
        for (int shortest = 1; shortest <= 9; shortest++) {
            LatticeGestures at = Steps.withPath(0, 0, shortest, 0);
            at.set(0, shortest);
            due.is("just as long as " + shortest, at.run(0, 2), 0);
            LatticeGestures below = Steps.withPath(0, 0, shortest - 1, 0);
            below.set(0, shortest);
            due.is("shorter than " + shortest, below.run(0, 2), shortest == 1 ? NONE : 1);
        }
    }

    // ---- point

    private static void pointArguments() {
        due.promise(2);
        due.sentence("Throws `IllegalArgumentException` if an argument is out of range");
        int[][] allowed = {{0, 0}, {31, 0}, {0, 31}, {31, 31}};
        for (int[] xy : allowed) {
            LatticeGestures g = new LatticeGestures();
            due.is("point " + xy[0] + ", " + xy[1], g.point(xy[0], xy[1]), 1);
            due.row("it is laid", Steps.points(g), xy);
        }
        int[][] wrong = {{-1, 0}, {32, 0}, {0, -1}, {0, 32}, {-1, 32}, {MIN, 0}, {MAX, 0}, {0, MIN}, {0, MAX}};
        for (int[] xy : wrong) {
            due.refuses(Steps::sixSaved, "point " + xy[0] + ", " + xy[1], Due.ARGUMENT, g -> g.point(xy[0], xy[1]));
            due.refuses(Steps::fullPath, "also with 40 points", Due.ARGUMENT, g -> g.point(xy[0], xy[1]));
        }
        due.saves(LatticeGestures::new, "point", g -> g.point(31, 31));
        due.saves(() -> Steps.withPath(5, 5), "the same point", g -> g.point(5, 5));
    }

    private static void pointBeyond40() {
        due.promise(2);
        due.sentence("Throws `IllegalStateException` if there are 40 points");
        LatticeGestures g = Steps.fullPath();
        g.back(1);
        due.is("with 39 points", g.point(3, 5), 40);
        due.refuses(Steps::fullPath, "with 40 points", Due.STATE, h -> h.point(0, 0));
        due.refuses(Steps::fullPath, "the same point with 40 points", Due.STATE, h -> h.point(3, 5));
    }

    // ---- go

    private static void goArguments() {
        due.promise(3);
        due.sentence("Throws `IllegalArgumentException` if an argument is out of range");
        due.is("least direction", Steps.withPath(15, 15).go(0, 1), 1);
        due.is("greatest direction", Steps.withPath(15, 15).go(7, 1), 1);
        due.is("greatest many", Steps.withPath(15, 15).go(0, 31), 16);
        int[][] wrong = {{-1, 1}, {8, 1}, {0, 0}, {0, 32}, {7, 0}, {7, 32}, {-1, 0}, {8, 32}, {MIN, 1}, {MAX, 1},
                {0, MIN}, {0, MAX}, {0, -1}};
        for (int[] call : wrong) {
            String what = "go " + call[0] + ", " + call[1];
            due.refuses(Steps::sixSaved, what, Due.ARGUMENT, g -> g.go(call[0], call[1]));
            due.refuses(LatticeGestures::new, what + " without points", Due.ARGUMENT, g -> g.go(call[0], call[1]));
            due.refuses(Steps::fullPath, what + " with 40 points", Due.ARGUMENT, g -> g.go(call[0], call[1]));
        }
    }

    private static void goWithoutPoints() {
        due.promise(3);
        due.sentence("(from 0, 0 without points, which becomes a point then, also if no step can be made)");
        int[] steps = {31, 31, 31, 0, 0, 0, 0, 0};
        for (int direction = 0; direction < 8; direction++) {
            int to = direction;
            LatticeGestures g = new LatticeGestures();
            due.is("steps in direction " + to, g.go(to, 31), steps[to]);
            due.is("points then", g.count(0), steps[to] + 1);
            due.is("x of the first one", g.pointOf(0, 0), 0);
            due.is("y of the first one", g.pointOf(0, 1), 0);
            due.saves(LatticeGestures::new, "go " + to, h -> h.go(to, 31));
        }
        LatticeGestures left = Steps.withPath(5, 5);
        left.begin();
        due.is("not from a point that was taken away", left.go(0, 1), 1);
        due.row("but from 0, 0", Steps.points(left), 0, 0, 1, 0);
    }

    private static void goWithinTheLattice() {
        due.promise(3);
        due.sentence("as many as can be made within 0 to 31");
        int[][] corners = {{0, 0}, {31, 0}, {31, 31}, {0, 31}};
        int[][] open = {{0, 1, 2}, {2, 3, 4}, {4, 5, 6}, {6, 7, 0}};
        for (int corner = 0; corner < 4; corner++) {
            for (int direction = 0; direction < 8; direction++) {
                LatticeGestures g = Steps.withPath(corners[corner]);
                boolean isOpen = direction == open[corner][0] || direction == open[corner][1]
                        || direction == open[corner][2];
                due.is("from corner " + corner + " in direction " + direction, g.go(direction, 31), isOpen ? 31 : 0);
                due.is("points then", g.count(0), isOpen ? 32 : 1);
            }
        }
        int[] nearTop = {1, 1, 1, 1, 30, 30, 30, 1};
        int[] nearBottom = {30, 30, 30, 1, 1, 1, 1, 1};
        for (int direction = 0; direction < 8; direction++) {
            due.is("from 30, 30", Steps.withPath(30, 30).go(direction, 31), nearTop[direction]);
            due.is("from 1, 1", Steps.withPath(1, 1).go(direction, 31), nearBottom[direction]);
        }
        due.saves(() -> Steps.withPath(31, 31), "go without a step", g -> g.go(1, 31));
    }

    private static void goAtMostMany() {
        due.promise(3);
        due.sentence("but at most many; each of them ends at a point.");
        LatticeGestures g = Steps.withPath(28, 31);
        due.is("one fewer than there is room", g.go(0, 2), 2);
        due.row("points", Steps.points(g), 28, 31, 29, 31, 30, 31);
        due.is("as many as there is room", g.go(0, 1), 1);
        due.is("none", g.go(0, 1), 0);
        due.row("points at the edge", Steps.points(g), 28, 31, 29, 31, 30, 31, 31, 31);
        due.is("one more than there is room", Steps.withPath(28, 31).go(0, 4), 3);
        LatticeGestures aslant = Steps.withPath(2, 30);
        due.is("down and to the left", aslant.go(5, 3), 2);
        due.row("points aslant", Steps.points(aslant), 2, 30, 1, 29, 0, 28);
    }

    private static void goBeyond40() {
        due.promise(3);
        due.sentence("Throws `IllegalStateException` if there would be more than 40 points");
        due.is("9 points and 31", pointsAt(9, 0, 0).go(0, 31), 31);
        due.refuses(() -> pointsAt(10, 0, 0), "10 points and 31", Due.STATE, g -> g.go(0, 31));
        due.is("10 points and 30", pointsAt(10, 0, 0).go(0, 30), 30);
        due.is("39 points and 1", pointsAt(39, 5, 5).go(0, 1), 1);
        due.refuses(() -> pointsAt(39, 5, 5), "39 points and 2", Due.STATE, g -> g.go(0, 2));
        due.is("39 points and room for 1", pointsAt(39, 30, 5).go(0, 31), 1);
        due.refuses(() -> pointsAt(39, 29, 5), "39 points and room for 2", Due.STATE, g -> g.go(0, 31));
        due.refuses(() -> pointsAt(40, 5, 5), "40 points and 1", Due.STATE, g -> g.go(0, 1));
        LatticeGestures full = pointsAt(40, 31, 5);
        due.is("40 points and no room", full.go(0, 31), 0);
        due.is("points then", full.count(0), 40);
        due.is("that is saved", full.count(8), 6);
    }

    private static LatticeGestures pointsAt(int many, int x, int y) {
        LatticeGestures gestures = new LatticeGestures();
        for (int point = 0; point < many; point++) {
            gestures.point(x, y);
        }
        return gestures;
    }

    // ---- back and begin

    private static void backArguments() {
        due.promise(4);
        due.sentence("Throws `IllegalArgumentException` if many is out of range");
        for (int many : new int[] {1, 0, -1, 2, MIN, MAX}) {
            due.refuses(LatticeGestures::new, "back " + many + " without points", Due.ARGUMENT, g -> g.back(many));
        }
        for (int many : new int[] {0, 8, 9, -1, MIN, MAX}) {
            due.refuses(Steps::sixSaved, "back " + many + " of 7", Due.ARGUMENT, g -> g.back(many));
        }
        due.refuses(Steps::fullPath, "back 41 of 40", Due.ARGUMENT, g -> g.back(41));
        due.refuses(() -> Steps.withPath(3, 3), "back 2 of 1", Due.ARGUMENT, g -> g.back(2));
    }

    private static void backToNothing() {
        due.promise(4);
        due.sentence("1 to the number of points");
        due.is("back 1 of 1", Steps.withPath(3, 3).back(1), 0);
        due.is("back 1 of 40", Steps.fullPath().back(1), 39);
        due.is("back 39 of 40", Steps.fullPath().back(39), 1);
        LatticeGestures all = Steps.fullPath();
        due.is("back 40 of 40", all.back(40), 0);
        due.is("points then", all.count(0), 0);
        due.is("runs then", all.count(1), 0);
        LatticeGestures g = Steps.sixSaved();
        due.is("back 5 of 7", g.back(5), 2);
        due.row("the first ones are left", Steps.points(g), 1, 1, 2, 1);
        due.saves(() -> Steps.withPath(3, 3, 9, 3), "back 1", h -> h.back(1));
        due.saves(() -> Steps.withPath(3, 3, 9, 3), "back 2", h -> h.back(2));
    }

    private static void begin() {
        due.promise(5);
        due.sentence("Returns how many points there were.");
        due.is("none", new LatticeGestures().begin(), 0);
        due.is("one", Steps.withPath(3, 3).begin(), 1);
        LatticeGestures g = Steps.fullPath();
        due.is("40", g.begin(), 40);
        due.is("none then", g.begin(), 0);
        due.is("points", g.count(0), 0);
        due.saves(LatticeGestures::new, "begin without points", h -> h.begin());
        due.saves(() -> Steps.commands(Steps.withPath(3, 3, 9, 3), "02"), "begin", h -> h.begin());
    }

    // ---- turn

    private static void turnArguments() {
        due.promise(6);
        due.sentence("Throws `IllegalArgumentException` if eighths is out of range");
        for (int eighths = 1; eighths <= 7; eighths++) {
            int by = eighths;
            due.is("turn " + by, Steps.withPath(15, 15, 18, 15).turn(by), 2);
            due.saves(() -> Steps.withPath(15, 15, 18, 15), "turn " + by, g -> g.turn(by));
        }
        for (int eighths : new int[] {0, 8, -1, 9, -8, 16, MIN, MAX}) {
            due.refuses(Steps::sixSaved, "turn " + eighths, Due.ARGUMENT, g -> g.turn(eighths));
            due.refuses(() -> Steps.withPath(9, 9, 11, 10), "turn " + eighths + " of an uneven step", Due.ARGUMENT,
                    g -> g.turn(eighths));
            due.refuses(LatticeGestures::new, "turn " + eighths + " without points", Due.ARGUMENT,
                    g -> g.turn(eighths));
        }
    }

    private static void turnModulo8() {
        due.promise(6);
        due.sentence("a direction that is greater by these eighths (modulo 8)");
        int[][] to = {{3, 0}, {3, 3}, {0, 3}, {-3, 3}, {-3, 0}, {-3, -3}, {0, -3}, {3, -3}};
        for (int direction = 0; direction < 8; direction++) {
            for (int eighths = 1; eighths <= 7; eighths++) {
                LatticeGestures g = Steps.withPath(15, 15, 15 + to[direction][0], 15 + to[direction][1]);
                g.turn(eighths);
                int[] then = to[(direction + eighths) % 8];
                due.row(direction + " turned by " + eighths, Steps.points(g), 15, 15, 15 + then[0], 15 + then[1]);
                due.is("its run", g.run(0, 0), (direction + eighths) % 8);
                due.is("its stroke", g.stroke(0), (direction + eighths) % 8);
            }
        }
    }

    private static void turnToTheEdge() {
        due.promise(6);
        due.sentence("Throws `IllegalStateException` if a point would be out of 0 to 31");
        toTheEdge(6, new int[] {27, 15, 27, 19}, 31, 15);
        toTheEdge(2, new int[] {4, 15, 4, 19}, 0, 15);
        toTheEdge(2, new int[] {15, 27, 19, 27}, 15, 31);
        toTheEdge(6, new int[] {15, 4, 19, 4}, 15, 0);
        toTheEdge(5, new int[] {27, 27, 23, 27}, 31, 31);
        toTheEdge(5, new int[] {4, 4, 8, 4}, 0, 0);
        beyondTheEdge(6, 28, 15, 28, 19);
        beyondTheEdge(2, 3, 15, 3, 19);
        beyondTheEdge(2, 15, 28, 19, 28);
        beyondTheEdge(6, 15, 3, 19, 3);
        beyondTheEdge(5, 28, 27, 24, 27);
        beyondTheEdge(5, 27, 28, 23, 28);
        beyondTheEdge(5, 3, 4, 7, 4);
        beyondTheEdge(5, 4, 3, 8, 3);
        beyondTheEdge(4, 3, 9, 7, 9, 4, 9);
        beyondTheEdge(2, 15, 15, 18, 15, 31, 15, 31, 31);
        beyondTheEdge(7, 0, 0, 0, 31, 31, 31);
    }

    private static void toTheEdge(int eighths, int[] points, int x, int y) {
        LatticeGestures g = Steps.withPath(points);
        due.is("turn to " + x + ", " + y, g.turn(eighths), 2);
        due.row("points then", Steps.points(g), points[0], points[1], x, y);
    }

    private static void beyondTheEdge(int eighths, int... points) {
        due.refuses(() -> Steps.withPath(points), "turn beyond the edge", Due.STATE, g -> g.turn(eighths));
    }

    private static void turnOfUnlikeDifferences() {
        due.promise(6);
        due.sentence("or a step has unlike differences of x and y, both not 0 (without their signs)");
        int[][] unlike = {{2, 1}, {1, 2}, {-2, 1}, {-1, 2}, {2, -1}, {1, -2}, {-2, -1}, {-1, -2}, {3, 2}, {2, 3}};
        for (int[] by : unlike) {
            for (int eighths : new int[] {1, 4, 7}) {
                due.refuses(() -> Steps.withPath(15, 15, 15 + by[0], 15 + by[1]), "a step by " + by[0] + ", " + by[1],
                        Due.STATE, g -> g.turn(eighths));
            }
        }
        due.refuses(() -> Steps.withPath(9, 9, 9, 12, 11, 13, 11, 15), "one of several", Due.STATE, g -> g.turn(1));
        due.refuses(() -> Steps.withPath(9, 9, 9, 12, 9, 12, 11, 13), "the last one", Due.STATE, g -> g.turn(4));
        int[][] even = {{2, 2}, {-2, 2}, {2, -2}, {-2, -2}, {0, 2}, {0, -2}, {2, 0}, {-2, 0}, {0, 0}};
        for (int[] by : even) {
            LatticeGestures g = Steps.withPath(15, 15, 15 + by[0], 15 + by[1]);
            due.is("a step by " + by[0] + ", " + by[1], g.turn(4), 2);
            due.row("turned", Steps.points(g), 15, 15, 15 - by[0], 15 - by[1]);
        }
    }

    private static void turnOfLengths() {
        due.promise(6);
        due.sentence("all points are laid anew, from the first one on, each step with its length");
        LatticeGestures longest = Steps.withPath(0, 0, 0, 31);
        longest.turn(7);
        due.row("the longest step", Steps.points(longest), 0, 0, 31, 31);
        LatticeGestures aslant = Steps.withPath(0, 0, 15, 15, 15, 15, 16, 16);
        aslant.turn(1);
        due.row("aslant to straight", Steps.points(aslant), 0, 0, 0, 15, 0, 15, 0, 16);
        aslant.turn(7);
        due.row("straight to aslant", Steps.points(aslant), 0, 0, 15, 15, 15, 15, 16, 16);
        LatticeGestures full = new LatticeGestures();
        for (int point = 0; point < 40; point++) {
            full.point(10 + point % 2, 10);
        }
        due.is("turn 40 points", full.turn(2), 40);
        due.is("x of the last one", full.pointOf(39, 0), 10);
        due.is("y of the last one", full.pointOf(39, 1), 11);
    }

    private static void turnOfFewPoints() {
        due.promise(6);
        due.sentence("Returns how many points there are.");
        due.is("none", new LatticeGestures().turn(7), 0);
        LatticeGestures corner = Steps.withPath(31, 31);
        due.is("one", corner.turn(1), 1);
        due.row("it stays", Steps.points(corner), 31, 31);
        due.is("three same ones", Steps.withPath(0, 0, 0, 0, 0, 0).turn(5), 3);
        due.saves(LatticeGestures::new, "turn without points", g -> g.turn(1));
        due.saves(() -> Steps.withPath(0, 0), "turn of one point", g -> g.turn(1));
    }
}
