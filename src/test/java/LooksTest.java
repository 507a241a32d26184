/** Promises 15 to 22: pointOf, run, stroke, strokeOf, distance, reading, count, setting. */
public final class LooksTest {
    private static final int MIN = Integer.MIN_VALUE;
    private static final int MAX = Integer.MAX_VALUE;
    private static final Due due = new Due("LooksTest");

    public static void main(String[] args) {
        pointOf();
        run();
        cutCorners();
        stroke();
        forgivenInOrder();
        strokeOf();
        distance();
        distancesByCosts();
        reading();
        readingWithoutRuns();
        count();
        setting();
        due.end();
    }

    private static void pointOf() {
        due.promise(15);
        LatticeGestures g = Steps.withPath(10, 10, 10, 10, 15, 11, 13, 18, 13, 9, 5, 9, 9, 1, 3, 0);
        int[] directions = {-1, -1, 1, 3, 6, 4, 7, 5};
        int[] lengths = {0, 0, 5, 7, 9, 8, 8, 6};
        for (int place = 0; place < 8; place++) {
            due.is("direction to " + place, g.pointOf(place, 2), directions[place]);
            due.is("length to " + place, g.pointOf(place, 3), lengths[place]);
        }
        due.is("x", g.pointOf(3, 0), 13);
        due.is("y", g.pointOf(3, 1), 18);
        LatticeGestures up = Steps.withPath(3, 3, 9, 3, 9, 4);
        due.is("direction 0", up.pointOf(1, 2), 0);
        due.is("direction 2", up.pointOf(2, 2), 2);
        for (int place : new int[] {-1, 8, MIN, MAX}) {
            due.refused(g, "no such point", Due.INDEX, () -> g.pointOf(place, 0));
            due.refused(g, "no such point, what wrong too", Due.INDEX, () -> g.pointOf(place, 4));
        }
        for (int what : new int[] {-1, 4, MIN, MAX}) {
            due.refused(g, "no such what", Due.ARGUMENT, () -> g.pointOf(0, what));
        }
        LatticeGestures empty = new LatticeGestures();
        due.refused(empty, "without points", Due.INDEX, () -> empty.pointOf(0, 0));
    }

    private static void run() {
        due.promise(16);
        LatticeGestures g = Steps.withPath(3, 3, 5, 3, 5, 3, 8, 3, 8, 4, 4, 4);
        due.row("directions", Steps.runs(g, 0), 0, 2, 4);
        due.row("lengths", Steps.runs(g, 1), 5, 1, 4);
        due.row("short ones", Steps.runs(g, 2), 0, 1, 0);
        due.row("cut corners", Steps.runs(g, 3), 0, 0, 0);
        g.set(0, 5);
        due.row("shorter than 5", Steps.runs(g, 2), 0, 1, 1);
        for (int what = 0; what <= 3; what++) {
            due.is("not so many", g.run(3, what), -1);
            due.is("not nearly so many", g.run(MAX, what), -1);
        }
        for (int[] call : new int[][] {{-1, 0}, {MIN, 0}, {0, -1}, {0, 4}, {9, 4}, {0, MIN}, {0, MAX}}) {
            due.refused(g, "run out of range", Due.ARGUMENT, () -> g.run(call[0], call[1]));
        }
        due.is("one short run alone is short", Steps.withPath(3, 3, 4, 4).run(0, 2), 1);
        due.is("no run of one point", Steps.withPath(3, 3).run(0, 0), -1);
    }

    private static void cutCorners() {
        LatticeGestures g = Steps.withPath(0, 0, 5, 0, 7, 2, 7, 6);
        due.row("a cut corner", Steps.runs(g, 3), 0, 1, 0);
        due.row("that is not short", Steps.runs(g, 2), 0, 0, 0);
        due.row("is forgiven", Steps.stroke(g), 0, 2);
        g.set(1, 1);
        due.row("too long for one", Steps.runs(g, 3), 0, 0, 0);
        due.row("is not forgiven", Steps.stroke(g), 0, 1, 2);
        LatticeGestures around = Steps.withPath(0, 9, 5, 4, 7, 4, 12, 9);
        due.row("7, 0, 1 is a cut corner too", Steps.runs(around, 3), 0, 1, 0);
        LatticeGestures down = Steps.withPath(20, 20, 20, 12, 18, 10, 9, 10);
        due.row("6, 5, 4 is one too", Steps.runs(down, 3), 0, 1, 0);
        LatticeGestures jag = Steps.withPath(0, 0, 5, 0, 7, 2, 12, 2);
        due.row("0, 1, 0 is none", Steps.runs(jag, 3), 0, 0, 0);
        due.row("and stays", Steps.stroke(jag), 0, 1, 0);
        LatticeGestures sharp = Steps.withPath(0, 0, 5, 0, 7, 2, 3, 6);
        due.row("0, 1, 3 is none", Steps.runs(sharp, 3), 0, 0, 0);
        LatticeGestures late = Steps.withPath(5, 0, 3, 2, 5, 4, 5, 9);
        due.row("3, 1, 2 is none", Steps.runs(late, 3), 0, 0, 0);
        LatticeGestures ends = Steps.withPath(0, 0, 2, 2, 2, 9);
        due.row("the first run is none", Steps.runs(ends, 3), 0, 0);
    }

    private static void stroke() {
        due.promise(17);
        LatticeGestures g = Steps.withPath(5, 5, 9, 5, 9, 9, 5, 9);
        due.row("stroke", Steps.stroke(g), 0, 2, 4);
        due.is("not so many", g.stroke(3), -1);
        due.is("not nearly so many", g.stroke(MAX), -1);
        due.refused(g, "place below 0", Due.ARGUMENT, () -> g.stroke(-1));
        due.refused(g, "place far below 0", Due.ARGUMENT, () -> g.stroke(MIN));
        due.is("without points", new LatticeGestures().stroke(0), -1);
        LatticeGestures lone = Steps.withPath(5, 5, 6, 5);
        due.row("a lone short run stays", Steps.stroke(lone), 0);
        due.is("none is dropped", lone.count(4), 0);
    }

    private static void forgivenInOrder() {
        LatticeGestures two = Steps.withPath(5, 5, 6, 5, 6, 6);
        due.row("of two short ones the first is dropped", Steps.stroke(two), 2);
        due.is("one is dropped", two.count(4), 1);
        LatticeGestures joined = Steps.withPath(0, 0, 5, 0, 5, 1, 9, 1);
        due.row("two become one", Steps.stroke(joined), 0);
        due.is("only one is dropped", joined.count(4), 1);
        due.is("runs ahead of that", joined.count(1), 3);
        // The run 1 of both lengths, 4, is no cut corner any more.
        LatticeGestures longer = Steps.withPath(0, 0, 5, 0, 7, 2, 6, 2, 8, 4, 8, 9);
        due.row("both lengths count", Steps.stroke(longer), 0, 1, 2);
        longer.set(1, 3);
        due.row("above 3", Steps.stroke(longer), 0, 1, 2);
        longer.set(1, 4);
        due.row("not above 4", Steps.stroke(longer), 0, 2);
        due.is("two are dropped then", longer.count(4), 2);
        // Of 0 1 2 3 4 the runs 1, 2 and 3 are cut corners; without 1, the run 2 is none any more.
        LatticeGestures arc = Steps.withPath(9, 9, 12, 9, 14, 11, 14, 13, 12, 15, 9, 15);
        due.row("first one first", Steps.stroke(arc), 0, 2, 4);
        due.is("two are dropped", arc.count(4), 2);
    }

    private static void strokeOf() {
        due.promise(18);
        LatticeGestures g = Steps.withCommands("01234567", "4");
        due.row("eight directions", Steps.strokeOf(g, 0), 0, 1, 2, 3, 4, 5, 6, 7);
        due.is("the last one", g.strokeOf(0, 7), 7);
        due.is("not so many", g.strokeOf(0, 8), -1);
        due.is("not so many of the other", g.strokeOf(1, 1), -1);
        due.is("not nearly so many", g.strokeOf(1, MAX), -1);
        for (int command : new int[] {-1, 2, 10, MIN, MAX}) {
            due.refused(g, "no such command", Due.INDEX, () -> g.strokeOf(command, 0));
            due.refused(g, "no such command, place wrong too", Due.INDEX, () -> g.strokeOf(command, -1));
        }
        due.refused(g, "place below 0", Due.ARGUMENT, () -> g.strokeOf(1, -1));
        due.refused(g, "place far below 0", Due.ARGUMENT, () -> g.strokeOf(1, MIN));
    }

    private static void distance() {
        due.promise(19);
        LatticeGestures g = new LatticeGestures();
        g.set(4, 0);
        Steps.commands(g, "0", "1", "4", "7", "02", "24", "135", "06", "60", "01010101");
        int[] fromFirst = {0, 2, 6, 2, 3, 7, 8, 3, 3, 21};
        for (int other = 0; other < fromFirst.length; other++) {
            due.is("from 0", g.distance(0, other), fromFirst[other]);
            due.is("to 0", g.distance(other, 0), fromFirst[other]);
            due.is("from itself", g.distance(other, other), 0);
        }
        due.is("put in and left out", g.distance(7, 8), 6);
        due.is("02 and 24", g.distance(4, 5), 6);
        due.is("02 and 135", g.distance(4, 6), 7);
        Steps.path(g, 5, 5, 9, 5, 9, 9, 5, 9);
        due.is("from the path 024", g.distance(0, -1), 6);
        due.is("02 from the path", g.distance(4, -1), 3);
        due.is("135 from the path", g.distance(6, -1), 6);
        g.begin();
        due.is("without directions", g.distance(9, -1), 24);
        int[][] wrong = {{-1, 0}, {10, 0}, {0, 10}, {0, -2}, {MIN, 0}, {MAX, 0}, {0, MIN}, {0, MAX}, {-1, -1}};
        for (int[] call : wrong) {
            due.refused(g, "no such command", Due.INDEX, () -> g.distance(call[0], call[1]));
        }
        LatticeGestures none = new LatticeGestures();
        due.refused(none, "without commands", Due.INDEX, () -> none.distance(0, -1));
    }

    private static void distancesByCosts() {
        LatticeGestures g = new LatticeGestures();
        g.set(4, 0);
        Steps.commands(g, "01", "12", "5");
        due.is("two eighths", g.distance(0, 1), 4);
        g.set(2, 9);
        due.is("one out, one in", g.distance(0, 1), 6);
        g.set(3, 1);
        due.is("cheaper", g.distance(0, 1), 2);
        due.is("two out, one in", g.distance(0, 2), 3);
        g.set(3, 9);
        due.is("all dear", g.distance(0, 1), 18);
        due.is("out and two times out and in", g.distance(0, 2), 27);
        g.set(2, 1);
        due.is("three eighths and one out", g.distance(0, 2), 12);
        // A path of 39 runs.
        g.set(0, 1);
        for (int place = 0; place < 40; place++) {
            g.point(place / 2 % 2 == 0 ? 3 : 5, (place + 1) / 2 % 2 == 0 ? 3 : 5);
        }
        due.is("directions", g.count(2), 39);
        due.is("38 are left out", g.distance(2, -1), 38 * 9 + 1);
    }

    private static void reading() {
        due.promise(20);
        LatticeGestures g = Steps.withCommands("02", "0246", "46");
        Steps.path(g, 5, 5, 9, 5, 9, 9);
        due.row("02", Steps.readings(g), 0, 0, 0, 3, -1);
        g.point(5, 9);
        due.row("024", Steps.readings(g), -1, 0, 3, 2, 1);
        g.point(5, 5);
        due.row("0246", Steps.readings(g), 1, 1, 0, 2, 0);
        g.begin();
        Steps.path(g, 5, 5, 9, 5, 13, 9);
        due.row("01", Steps.readings(g), 0, 0, 2, 3, -1);
        g.begin();
        Steps.path(g, 15, 5, 9, 5);
        due.row("4", Steps.readings(g), -1, 2, 3, 4, 1);
        g.undo();
        g.forget(2);
        due.row("without runs", Steps.readings(g), -1, 0, 6, 3, -1);
        LatticeGestures cheap = Steps.withCommands("0246");
        cheap.set(3, 1);
        Steps.path(cheap, 5, 5, 9, 5, 9, 9);
        due.row("the least rest, not the nearest beginning", Steps.readings(cheap), 0, 0, 2, 1, 0);
        cheap.set(4, 1);
        due.row("one less forgiven", Steps.readings(cheap), -1, 0, 2, 1, 1);
        for (int what : new int[] {-1, 5, MIN, MAX}) {
            due.refused(cheap, "no such what", Due.ARGUMENT, () -> cheap.reading(what));
        }
    }

    private static void readingWithoutRuns() {
        LatticeGestures g = Steps.withCommands("0");
        g.set(4, 20);
        due.row("no points", Steps.readings(g), -1, 0, 3, 1, 0);
        Steps.path(g, 5, 5, 5, 5);
        due.row("no runs", Steps.readings(g), -1, 0, 3, 1, 0);
        g.point(5, 9);
        due.row("a run", Steps.readings(g), 0, 0, 4, 1, 0);
        LatticeGestures none = Steps.withPath(5, 5, 9, 5);
        due.row("no commands", Steps.readings(none), -1, -1, -1, 0, -1);
    }

    private static void count() {
        due.promise(21);
        LatticeGestures g = Steps.withCommands("02", "0246");
        Steps.path(g, 0, 0, 5, 0, 5, 0, 7, 2, 6, 2, 8, 4, 8, 9);
        due.row("counts", Steps.counts(g), 7, 5, 3, 15, 1, 2, 6, 6, 6);
        g.forget(1);
        due.is("the least distance of one", g.count(7), -1);
        due.is("directions of one", g.count(6), 2);
        LatticeGestures three = Steps.withCommands("0246", "6420", "0");
        due.is("the least of three distances", three.count(7), 9);
        for (int what : new int[] {-1, 9, MIN, MAX}) {
            due.refused(g, "no such what", Due.ARGUMENT, () -> g.count(what));
        }
    }

    private static void setting() {
        due.promise(22);
        LatticeGestures g = new LatticeGestures();
        g.set(0, 9);
        g.set(1, 8);
        g.set(2, 7);
        g.set(3, 6);
        g.set(4, 5);
        due.row("settings", Steps.settings(g), 9, 8, 7, 6, 5);
        for (int setting : new int[] {-1, 5, MIN, MAX}) {
            due.refused(g, "no such setting", Due.INDEX, () -> g.setting(setting));
        }
    }
}
