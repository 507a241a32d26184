/** The edges of the terms about strokes, distances and readings and of promises 15 to 22, by sentence. */
public final class LookEdgesTest {
    private static final int NONE = LatticeGestures.NONE;
    private static final int MIN = Integer.MIN_VALUE;
    private static final int MAX = Integer.MAX_VALUE;
    private static final Due due = new Due("LookEdgesTest");

    public static void main(String[] args) {
        pointOfPlaces();
        pointOfWhats();
        pointOfTheFirstOne();
        runArguments();
        runBehindTheLast();
        cutCornersInside();
        cutCornersByDirections();
        cutCornersByLength();
        forgivenMoreThanOne();
        forgivenFirstOneFirst();
        forgivenToOneRun();
        forgivenWithBothLengths();
        forgivenAtTheEnds();
        strokeArguments();
        strokeBehindTheLast();
        strokeOfArguments();
        strokeOfBehindTheLast();
        distanceArguments();
        distanceByEighths();
        distanceByGaps();
        distanceOfEmptyStroke();
        distanceOfLongStrokes();
        readingWhats();
        readAtWhatIsForgiven();
        readWithoutRuns();
        nearestOfSeveral();
        canBecomeFromNothing();
        canBecomeAtWhatIsForgiven();
        canBecomeByAnyBeginning();
        canBecomeJustOne();
        leastStillToCome();
        readingWithoutCommands();
        countWhats();
        countsOfNothing();
        countsOfTheGreatest();
        countOfDropped();
        countOfLeastDistance();
        settingArguments();
        due.end();
    }

    // ---- pointOf

    private static void pointOfPlaces() {
        due.promise(15);
        due.sentence("Throws `IndexOutOfBoundsException` if there is no such point");
        for (int what = 0; what <= 3; what++) {
            int which = what;
            for (int place : new int[] {0, -1, 1, MIN, MAX}) {
                due.refuses(LatticeGestures::new, "place " + place + " of none", Due.INDEX,
                        g -> g.pointOf(place, which));
            }
            for (int place : new int[] {-1, 7, 8, MIN, MAX}) {
                due.refuses(Steps::sixSaved, "place " + place + " of 7", Due.INDEX, g -> g.pointOf(place, which));
            }
            due.refuses(Steps::fullPath, "place 40 of 40", Due.INDEX, g -> g.pointOf(40, which));
        }
        due.is("place 39 of 40", Steps.fullPath().pointOf(39, 1), 5);
        due.is("place 0 of 1", Steps.withPath(31, 0).pointOf(0, 0), 31);
        LatticeGestures back = Steps.sixSaved();
        back.back(2);
        due.is("the last one that is left", back.pointOf(4, 0), 5);
        due.refused(back, "the first one that was taken away", Due.INDEX, () -> back.pointOf(5, 0));
        due.refuses(() -> Steps.withPath(3, 3), "no point, and no what", Due.INDEX, g -> g.pointOf(1, 4));
        due.refuses(() -> Steps.withPath(3, 3), "no point, and no what", Due.INDEX, g -> g.pointOf(-1, -1));
    }

    private static void pointOfWhats() {
        due.promise(15);
        due.sentence("Throws `IllegalArgumentException` if what is not 0 to 3");
        LatticeGestures g = Steps.withPath(3, 4, 3, 9);
        due.is("x", g.pointOf(1, 0), 3);
        due.is("y", g.pointOf(1, 1), 9);
        due.is("direction", g.pointOf(1, 2), 2);
        due.is("length", g.pointOf(1, 3), 5);
        for (int what : new int[] {-1, 4, MIN, MAX}) {
            due.refuses(() -> Steps.withPath(3, 4, 3, 9), "what " + what, Due.ARGUMENT, h -> h.pointOf(1, what));
            due.refuses(() -> Steps.withPath(3, 4), "what " + what, Due.ARGUMENT, h -> h.pointOf(0, what));
        }
    }

    private static void pointOfTheFirstOne() {
        due.promise(15);
        due.sentence("NONE for the first one, or if that is the same; 3: the length of that step, 0 likewise");
        LatticeGestures g = Steps.withPath(0, 0, 0, 0, 1, 0);
        for (int place = 0; place <= 1; place++) {
            due.is("direction to " + place, g.pointOf(place, 2), NONE);
            due.is("length to " + place, g.pointOf(place, 3), 0);
        }
        due.is("direction to 2", g.pointOf(2, 2), 0);
        due.is("length to 2", g.pointOf(2, 3), 1);
        LatticeGestures far = Steps.withPath(31, 31);
        due.is("direction to a first one that is not 0, 0", far.pointOf(0, 2), NONE);
        due.is("length to it", far.pointOf(0, 3), 0);
    }

    // ---- run

    private static void runArguments() {
        due.promise(16);
        due.sentence("Throws `IllegalArgumentException` if run is below 0, or what is not 0 to 3");
        int[][] wrong = {{-1, 0}, {-1, 3}, {MIN, 0}, {0, -1}, {0, 4}, {0, MIN}, {0, MAX}, {6, 4}, {MAX, -1}, {-1, 4}};
        for (int[] call : wrong) {
            String what = "run " + call[0] + ", " + call[1];
            due.refuses(Steps::sixSaved, what, Due.ARGUMENT, g -> g.run(call[0], call[1]));
            due.refuses(LatticeGestures::new, what + " without points", Due.ARGUMENT, g -> g.run(call[0], call[1]));
        }
    }

    private static void runBehindTheLast() {
        due.promise(16);
        due.sentence("Returns the number; NONE if there are not so many.");
        LatticeGestures g = Steps.drawn("024");
        for (int what = 0; what <= 3; what++) {
            due.is("the first run of none", new LatticeGestures().run(0, what), NONE);
            due.is("the first run of one point", Steps.withPath(3, 3).run(0, what), NONE);
            due.is("run 3 of 3", g.run(3, what), NONE);
            due.is("the greatest run", g.run(MAX, what), NONE);
            due.is("run 39 of 39", Steps.fullPath().run(39, what), NONE);
        }
        due.is("run 2 of 3", g.run(2, 0), 4);
        due.is("run 38 of 39", Steps.fullPath().run(38, 0), 4);
        g.back(1);
        due.is("a run that was taken away", g.run(2, 0), NONE);
    }

    private static void cutCornersInside() {
        due.promise(16);
        due.sentence("A run is a cut corner if there is a run ahead of it and one behind it");
        due.row("one run", Steps.runs(Steps.drawn("1"), 3), 0);
        for (int first = 0; first < 8; first++) {
            for (int turn = 1; turn < 8; turn++) {
                LatticeGestures two = Steps.drawn("" + first + (first + turn) % 8);
                due.row("the ends of " + first + " and what is turned by " + turn, Steps.runs(two, 3), 0, 0);
                due.is("none of them is dropped", two.count(4), 0);
            }
        }
        due.row("the one between", Steps.runs(Steps.drawn("012"), 3), 0, 1, 0);
        due.row("all that are between", Steps.runs(Steps.drawn("01234567"), 3), 0, 1, 1, 1, 1, 1, 1, 0);
        due.row("all that are between, the other way", Steps.runs(Steps.drawn("21076"), 3), 0, 1, 1, 1, 0);
    }

    private static void cutCornersByDirections() {
        due.promise(16);
        due.sentence("both differ from it by one eighth of a turn, and from each other by two");
        for (int ahead = 0; ahead < 8; ahead++) {
            for (int turn = 1; turn < 8; turn++) {
                for (int next = 1; next < 8; next++) {
                    int here = (ahead + turn) % 8;
                    int behind = (here + next) % 8;
                    boolean isCut = (turn == 1 && next == 1) || (turn == 7 && next == 7);
                    LatticeGestures g = Steps.drawn("" + ahead + here + behind);
                    due.is(ahead + ", " + here + ", " + behind, g.run(1, 3), isCut ? 1 : 0);
                }
            }
        }
    }

    private static void cutCornersByLength() {
        due.promise(16);
        due.sentence("and its length is at most setting 1.");
        for (int longest = 0; longest <= 9; longest++) {
            LatticeGestures at = corner(Math.max(longest, 1), longest);
            due.is("just as long as " + longest, at.run(1, 3), longest == 0 ? 0 : 1);
            due.is("longer than " + longest, corner(longest + 1, longest).run(1, 3), 0);
            due.is("directions left with that", corner(longest + 1, longest).count(2), 3);
        }
        due.is("shorter", corner(1, 9).run(1, 3), 1);
        LatticeGestures sum = Steps.withPath(0, 0, 9, 0, 10, 1, 11, 2, 12, 3, 12, 9);
        due.is("three steps of 1 are longer than 2", sum.run(1, 3), 0);
        sum.set(1, 3);
        due.is("but not longer than 3", sum.run(1, 3), 1);
    }

    /** A corner that is cut by a run of this length, with setting 1 as told and no run short. */
    private static LatticeGestures corner(int length, int longest) {
        LatticeGestures g = Steps.withPath(0, 0, 10, 0, 10 + length, length, 10 + length, 31);
        g.set(0, 1);
        g.set(1, longest);
        return g;
    }

    // ---- what is forgiven

    private static void forgivenMoreThanOne() {
        due.promise(17);
        due.sentence("as long as there is more than one run, and one of them is short or a cut corner");
        LatticeGestures one = Steps.withPath(3, 3, 4, 3);
        one.set(0, 9);
        due.row("one short run stays", Steps.stroke(one), 0);
        due.is("none is dropped", one.count(4), 0);
        LatticeGestures two = Steps.withPath(3, 3, 4, 3, 4, 4);
        due.row("of two short ones one stays", Steps.stroke(two), 2);
        due.is("one is dropped", two.count(4), 1);
        LatticeGestures none = Steps.drawn("0246");
        due.row("none is short or a cut corner", Steps.stroke(none), 0, 2, 4, 6);
        due.is("none is dropped", none.count(4), 0);
        LatticeGestures all = Steps.fullPath();
        all.set(0, 9);
        due.row("of 39 short ones the last one stays", Steps.stroke(all), 4);
        due.is("38 are dropped", all.count(4), 38);
    }

    private static void forgivenFirstOneFirst() {
        due.promise(17);
        due.sentence("the first such run is dropped");
        LatticeGestures corners = Steps.drawn("0123");
        due.row("the run 1, then 2 is no cut corner any more", Steps.stroke(corners), 0, 2, 3);
        due.is("one is dropped", corners.count(4), 1);
        LatticeGestures ahead = Steps.withPath(0, 0, 5, 0, 7, 2, 7, 3);
        due.row("a cut corner ahead of a short one", Steps.stroke(ahead), 0);
        due.is("two are dropped", ahead.count(4), 2);
        LatticeGestures behind = Steps.withPath(5, 0, 6, 0, 8, 2, 8, 9);
        due.row("a short one ahead of a cut corner", Steps.stroke(behind), 1, 2);
        due.is("one is dropped", behind.count(4), 1);
    }

    private static void forgivenToOneRun() {
        due.promise(17);
        due.sentence("if the two runs that come to stand side by side then have the same direction, they become one "
                + "run with both lengths.");
        LatticeGestures enough = Steps.withPath(0, 9, 9, 9, 9, 12, 15, 12, 15, 13, 18, 13);
        enough.set(0, 4);
        due.row("the last run is short, but is joined first", Steps.stroke(enough), 0);
        due.is("two of five are dropped", enough.count(4), 2);
        // 0 and 0 would be long enough as one run, but the first of them is dropped before that.
        LatticeGestures joined = Steps.withPath(5, 5, 5, 12, 8, 12, 8, 13, 10, 13, 10, 20);
        joined.set(0, 5);
        due.row("the first short run goes before it can be joined", Steps.stroke(joined), 2);
        due.is("two of five are dropped", joined.count(4), 2);
        LatticeGestures late = Steps.withPath(5, 5, 10, 5, 10, 6, 11, 6, 11, 13);
        due.row("a short run that was joined is none any more", Steps.stroke(late), 0, 2);
        due.is("only one is dropped", late.count(4), 1);
        LatticeGestures unlike = Steps.withPath(5, 5, 10, 5, 10, 6, 5, 6);
        due.row("unlike ones stay two", Steps.stroke(unlike), 0, 4);
        due.is("one is dropped", unlike.count(4), 1);
    }

    private static void forgivenWithBothLengths() {
        due.promise(17);
        due.sentence("they become one run with both lengths.");
        // Direction 1 by 4 and by 2 becomes a run of 6 between 0 and 2: direction 3 by 1 is short.
        int[] corner = {0, 0, 5, 0, 9, 4, 8, 5, 10, 7, 10, 16};
        LatticeGestures g = Steps.withPath(corner);
        due.row("a corner of 6", Steps.stroke(g), 0, 1, 2);
        g.set(1, 5);
        due.row("is longer than 5", Steps.stroke(g), 0, 1, 2);
        g.set(1, 6);
        due.row("is not longer than 6", Steps.stroke(g), 0, 2);
        due.is("two are dropped then", g.count(4), 2);
        // Direction 0 by 2 and by 1 becomes a run of 3, ahead of 2 by 3, 4 by 2 and 6 by 3.
        LatticeGestures behind = Steps.withPath(5, 5, 7, 5, 7, 6, 8, 6, 8, 9, 6, 9, 6, 6);
        due.row("what is behind keeps its length", Steps.stroke(behind), 0, 2, 4, 6);
        behind.set(0, 3);
        due.row("a 0 of 2 is dropped before it can be joined", Steps.stroke(behind), 2, 6);
        LatticeGestures three = Steps.withPath(5, 5, 9, 5, 9, 6, 10, 6, 10, 11, 8, 11, 8, 6);
        three.set(0, 3);
        due.row("a 4 of 2 behind a run of both lengths is dropped", Steps.stroke(three), 0, 2, 6);
        due.is("two are dropped", three.count(4), 2);
    }

    private static void forgivenAtTheEnds() {
        due.promise(17);
        due.sentence("the first such run is dropped");
        LatticeGestures first = Steps.withPath(5, 5, 6, 5, 6, 9, 10, 9);
        due.row("the first run, nothing is ahead of it", Steps.stroke(first), 2, 0);
        LatticeGestures last = Steps.withPath(5, 5, 9, 5, 9, 9, 8, 9);
        due.row("the last run, nothing is behind it", Steps.stroke(last), 0, 2);
        LatticeGestures both = Steps.withPath(5, 5, 6, 5, 6, 9, 5, 9);
        due.row("both ends", Steps.stroke(both), 2);
        due.is("two are dropped", both.count(4), 2);
        LatticeGestures same = Steps.withPath(5, 5, 5, 6, 9, 6, 9, 7);
        due.row("the ends are the same, but never side by side", Steps.stroke(same), 0);
        due.is("two are dropped", same.count(4), 2);
    }

    // ---- stroke and strokeOf

    private static void strokeArguments() {
        due.promise(17);
        due.sentence("Throws `IllegalArgumentException` if place is below 0");
        for (int place : new int[] {-1, -2, MIN}) {
            due.refuses(LatticeGestures::new, "place " + place + " of none", Due.ARGUMENT, g -> g.stroke(place));
            due.refuses(Steps::sixSaved, "place " + place, Due.ARGUMENT, g -> g.stroke(place));
        }
    }

    private static void strokeBehindTheLast() {
        due.promise(17);
        due.sentence("Returns the direction; NONE if there are not so many.");
        due.is("the first one of none", new LatticeGestures().stroke(0), NONE);
        due.is("the greatest place of none", new LatticeGestures().stroke(MAX), NONE);
        LatticeGestures g = Steps.drawn("70");
        due.is("place 0 of 2", g.stroke(0), 7);
        due.is("place 1 of 2", g.stroke(1), 0);
        due.is("place 2 of 2", g.stroke(2), NONE);
        due.is("the greatest place", g.stroke(MAX), NONE);
        due.is("place 38 of 39", Steps.fullPath().stroke(38), 4);
        due.is("place 39 of 39", Steps.fullPath().stroke(39), NONE);
        LatticeGestures dropped = Steps.withPath(5, 5, 9, 5, 9, 6);
        due.is("the place of a run that was dropped", dropped.stroke(1), NONE);
    }

    private static void strokeOfArguments() {
        due.promise(18);
        due.sentence("Throws `IndexOutOfBoundsException` if there is no such command");
        for (int command : new int[] {0, -1, 1, MIN, MAX}) {
            due.refuses(Steps::sixSaved, "command " + command + " of none", Due.INDEX, g -> g.strokeOf(command, 0));
        }
        for (int command : new int[] {-1, 10, 11, MIN, MAX}) {
            due.refuses(Steps::tenCommands, "command " + command, Due.INDEX, g -> g.strokeOf(command, 0));
            due.refuses(Steps::tenCommands, "and place -1", Due.INDEX, g -> g.strokeOf(command, -1));
        }
        due.sentence("Throws `IllegalArgumentException` if place is below 0");
        for (int place : new int[] {-1, -2, MIN}) {
            due.refuses(Steps::tenCommands, "place " + place, Due.ARGUMENT, g -> g.strokeOf(0, place));
            due.refuses(Steps::tenCommands, "place " + place, Due.ARGUMENT, g -> g.strokeOf(9, place));
        }
    }

    private static void strokeOfBehindTheLast() {
        due.promise(18);
        due.sentence("Returns the direction; NONE if there are not so many.");
        LatticeGestures g = Steps.withCommands("76543210", "4");
        due.is("place 7 of 8", g.strokeOf(0, 7), 0);
        due.is("place 8 of 8", g.strokeOf(0, 8), NONE);
        due.is("the greatest place", g.strokeOf(0, MAX), NONE);
        due.is("place 0 of 1", g.strokeOf(1, 0), 4);
        due.is("place 1 of 1", g.strokeOf(1, 1), NONE);
        g.forget(0);
        due.is("nothing of the longer one that was there", g.strokeOf(0, 1), NONE);
        due.is("the second direction of command 9", Steps.tenCommands().strokeOf(9, 1), 4);
    }

    // ---- distance

    private static void distanceArguments() {
        due.promise(19);
        due.sentence("Throws `IndexOutOfBoundsException` if there is no such command, or other is neither a command "
                + "nor NONE");
        int[][] wrong = {{-1, 0}, {10, 0}, {0, -2}, {0, 10}, {-1, -1}, {10, -1}, {MIN, 0}, {MAX, 0}, {0, MIN}, {0, MAX},
                {9, -2}, {9, 10}};
        for (int[] call : wrong) {
            due.refuses(Steps::tenCommands, "distance " + call[0] + ", " + call[1], Due.INDEX,
                    g -> g.distance(call[0], call[1]));
        }
        for (int command = -1; command <= 1; command++) {
            int which = command;
            due.refuses(Steps::sixSaved, "command " + which + " of none", Due.INDEX, g -> g.distance(which, NONE));
            due.refuses(Steps::sixSaved, "command " + which + " of none", Due.INDEX, g -> g.distance(which, 0));
        }
        LatticeGestures g = Steps.draw(Steps.tenCommands(), "04");
        due.is("0 and 9", g.distance(0, 9), 3);
        due.is("9 and 0", g.distance(9, 0), 3);
        due.is("9 and 9", g.distance(9, 9), 0);
        due.is("9 and the path", g.distance(9, NONE), 0);
        due.is("0 and the path", g.distance(0, NONE), 3);
    }

    private static void distanceByEighths() {
        due.promise(19);
        due.sentence("Two directions differ by as many eighths of a turn as it takes to turn from one to the other, "
                + "0 to 4.");
        int[] eighths = {0, 1, 2, 3, 4, 3, 2, 1};
        for (int turn = 1; turn <= 4; turn++) {
            LatticeGestures g = new LatticeGestures();
            g.set(4, 0);
            g.set(3, 9);
            g.set(2, turn);
            Steps.commands(g, "0", "1", "2", "3", "4", "5", "6", "7");
            for (int command = 0; command < 8; command++) {
                for (int other = 0; other < 8; other++) {
                    due.is("distance of " + command + " and " + other, g.distance(command, other),
                            turn * eighths[(command - other + 8) % 8]);
                }
            }
        }
    }

    private static void distanceByGaps() {
        due.promise(19);
        due.sentence("a direction that is left out, or put in, costs setting 3.");
        // Two eighths, or one left out and one put in: the cheaper one counts.
        for (int turn = 1; turn <= 9; turn++) {
            for (int gap = 1; gap <= 9; gap++) {
                LatticeGestures g = new LatticeGestures();
                g.set(4, 0);
                g.set(2, turn);
                g.set(3, gap);
                Steps.commands(g, "0", "2", "20");
                due.is("0 and 2 at " + turn + ", " + gap, g.distance(0, 1), Math.min(2 * turn, 2 * gap));
                due.is("0 and 20 at " + turn + ", " + gap, g.distance(0, 2), gap);
                due.is("2 and 20 at " + turn + ", " + gap, g.distance(1, 2), gap);
                due.is("20 and 0 at " + turn + ", " + gap, g.distance(2, 0), gap);
            }
        }
    }

    private static void distanceOfEmptyStroke() {
        due.promise(19);
        due.sentence("the stroke of the path (perhaps without directions)");
        LatticeGestures g = Steps.withCommands("0", "02460246");
        due.is("one is put in", g.distance(0, NONE), 3);
        due.is("eight are put in", g.distance(1, NONE), 24);
        g.set(3, 9);
        due.is("at 9", g.distance(1, NONE), 72);
        g.point(3, 3);
        due.is("with one point", g.distance(1, NONE), 72);
        g.point(3, 3);
        due.is("without runs", g.distance(0, NONE), 9);
    }

    private static void distanceOfLongStrokes() {
        due.promise(19);
        due.sentence("The distance of two strokes is the least sum with which the one becomes the other");
        LatticeGestures g = Steps.fullPath();
        g.set(2, 9);
        g.set(3, 9);
        Steps.commands(g, "0", "02460246", "1");
        due.is("38 of 39 are left out", g.distance(0, NONE), 38 * 9);
        due.is("31 of 39 are left out", g.distance(1, NONE), 31 * 9);
        due.is("38 are left out, one is replaced", g.distance(2, NONE), 39 * 9);
        LatticeGestures shifted = Steps.draw(Steps.withCommands("01234567"), "12345670");
        shifted.set(1, 0);
        due.is("one left out, one put in", shifted.distance(0, NONE), 6);
        shifted.set(3, 9);
        shifted.set(2, 1);
        due.is("eight replaced by one eighth each", shifted.distance(0, NONE), 8);
    }

    // ---- reading

    private static void readingWhats() {
        due.promise(20);
        due.sentence("Throws `IllegalArgumentException` if what is not 0 to 4");
        for (int what : new int[] {-1, 5, 6, MIN, MAX}) {
            due.refuses(LatticeGestures::new, "reading " + what, Due.ARGUMENT, g -> g.reading(what));
            due.refuses(() -> Steps.draw(Steps.tenCommands(), "0"), "reading " + what, Due.ARGUMENT,
                    g -> g.reading(what));
        }
    }

    private static void readAtWhatIsForgiven() {
        due.promise(20);
        due.sentence("A path is read as a command, if the distance of its stroke and that of the command is at most "
                + "setting 4; otherwise it is read as none.");
        LatticeGestures g = Steps.draw(Steps.withCommands("0"), "1");
        due.is("at 2, 2", g.reading(0), 0);
        g.set(4, 1);
        due.is("at 2, 1", g.reading(0), NONE);
        due.is("the nearest one all the same", g.reading(1), 0);
        due.is("its distance", g.reading(2), 2);
        LatticeGestures none = Steps.draw(Steps.withCommands("0"), "0");
        none.set(4, 0);
        due.is("at 0, 0", none.reading(0), 0);
        none.set(2, 1);
        none.begin();
        due.is("at 1, 0", Steps.draw(none, "1").reading(0), NONE);
        LatticeGestures most = Steps.draw(Steps.withCommands("0"), "042424");
        most.set(3, 4);
        most.set(4, 20);
        due.is("distance", most.distance(0, NONE), 20);
        due.is("at 20, 20", most.reading(0), 0);
        most.set(3, 5);
        due.is("distance", most.distance(0, NONE), 25);
        due.is("at 25, 20", most.reading(0), NONE);
        due.is("command 9 of 10", Steps.draw(Steps.tenCommands(), "04").reading(0), 9);
    }

    private static void readWithoutRuns() {
        due.promise(20);
        due.sentence("A path without runs is read as none.");
        LatticeGestures g = Steps.withCommands("0");
        g.set(4, 20);
        due.row("no points", Steps.readings(g), NONE, 0, 3, 1, 0);
        g.point(3, 3);
        due.row("one point", Steps.readings(g), NONE, 0, 3, 1, 0);
        g.point(3, 3);
        due.row("two same points", Steps.readings(g), NONE, 0, 3, 1, 0);
        g.point(2, 3);
        due.row("a run, though short", Steps.readings(g), 0, 0, 6, 1, 0);
        g.back(1);
        due.row("no run again", Steps.readings(g), NONE, 0, 3, 1, 0);
    }

    private static void nearestOfSeveral() {
        due.promise(20);
        due.sentence("1: the nearest command, of several the lowest one, NONE without commands");
        LatticeGestures g = new LatticeGestures();
        g.set(4, 1);
        Steps.commands(g, "46", "7", "1", "57");
        Steps.draw(g, "0");
        due.is("1 and 2 are at 2", g.reading(1), 1);
        due.is("their distance", g.reading(2), 2);
        g.forget(1);
        due.is("then 1 again, that was 2", g.reading(1), 1);
        g.forget(1);
        due.is("then 0 and 1 are apart", g.reading(1), 1);
        due.is("at", g.reading(2), 5);
        due.is("of ten at 3 and 6 without directions", Steps.tenCommands().reading(1), 0);
        due.is("the last one of ten", Steps.draw(Steps.tenCommands(), "04").reading(1), 9);
    }

    private static void canBecomeFromNothing() {
        due.promise(20);
        due.sentence("some beginning of the command's stroke (0 directions to all)");
        due.is("all ten, without points", Steps.tenCommands().reading(3), 1023);
        due.is("more than one", Steps.tenCommands().reading(4), NONE);
        due.is("two", Steps.withCommands("0246", "4").reading(3), 3);
        LatticeGestures g = Steps.withCommands("02460246");
        due.is("one", g.reading(3), 1);
        due.is("all of it is still to come", g.reading(4), 8);
        g.set(3, 1);
        due.is("two directions are forgiven", g.reading(4), 6);
        g.set(4, 7);
        due.is("seven are forgiven", g.reading(4), 1);
        g.set(4, 8);
        due.is("all are forgiven", g.reading(4), 0);
        LatticeGestures ten = Steps.draw(Steps.tenCommands(), "04");
        due.is("only the last one of ten", ten.reading(3), 1 << 9);
        due.is("nothing is still to come", ten.reading(4), 0);
    }

    private static void canBecomeAtWhatIsForgiven() {
        due.promise(20);
        due.sentence("is at most setting 4.");
        LatticeGestures g = Steps.draw(Steps.withCommands("0246"), "1");
        due.is("1 and 0 at 2, 2", g.reading(3), 1);
        due.is("three are still to come", g.reading(4), 3);
        g.set(4, 1);
        due.is("1 and 0 at 2, 1", g.reading(3), 0);
        due.is("none is still to come", g.reading(4), NONE);
        LatticeGestures gap = Steps.draw(Steps.withCommands("40404"), "0");
        due.is("nothing at 3, 2", gap.reading(3), 0);
        gap.set(4, 3);
        due.is("0 and nothing, 40 at 3, 3", gap.reading(3), 1);
        due.is("behind 40", gap.reading(4), 3);
    }

    private static void canBecomeByAnyBeginning() {
        due.promise(20);
        due.sentence("3: the commands that it can become, as a mask");
        LatticeGestures left = Steps.draw(Steps.withCommands("4"), "0");
        left.set(3, 1);
        left.set(4, 1);
        due.is("by no directions, 0 is left out", left.reading(3), 1);
        due.is("all of it is still to come", left.reading(4), 1);
        due.is("it is not read", left.reading(0), NONE);
        LatticeGestures beyond = Steps.draw(Steps.withCommands("02", "0264"), "026");
        due.is("02 at 3, 026 at 0", beyond.reading(3), 2);
        due.is("one is still to come", beyond.reading(4), 1);
        LatticeGestures all = Steps.draw(Steps.withCommands("02460246"), "02460246");
        due.is("by all eight", all.reading(3), 1);
        due.is("none is still to come", all.reading(4), 0);
        all.back(1);
        due.is("by seven", all.reading(4), 1);
        due.is("39 directions are too many", Steps.commands(Steps.fullPath(), "0246").reading(3), 0);
    }

    private static void canBecomeJustOne() {
        due.promise(20);
        due.sentence("4: if it can become just one command, how many directions of its stroke are still to come");
        LatticeGestures g = Steps.draw(Steps.withCommands("0246", "0424", "6"), "0");
        due.is("two commands", g.reading(3), 3);
        due.is("more than one", g.reading(4), NONE);
        Steps.draw(g, "2");
        due.is("one command", g.reading(3), 1);
        due.is("two directions", g.reading(4), 2);
        g.begin();
        Steps.draw(g, "04");
        due.is("the other command", g.reading(3), 2);
        due.is("two directions of that", g.reading(4), 2);
        g.begin();
        Steps.draw(g, "3");
        due.is("no command", g.reading(3), 0);
        due.is("none", g.reading(4), NONE);
    }

    private static void leastStillToCome() {
        due.promise(20);
        due.sentence("the least number of directions behind a beginning of it whose distance from the path's stroke "
                + "is at most setting 4; otherwise NONE");
        LatticeGestures g = Steps.draw(Steps.withCommands("01234567"), "0");
        g.set(3, 1);
        due.is("three directions are within 2", g.reading(4), 5);
        g.set(4, 0);
        due.is("one is within 0", g.reading(4), 7);
        g.set(4, 6);
        due.is("seven are within 6", g.reading(4), 1);
        g.set(4, 7);
        due.is("all are within 7", g.reading(4), 0);
        g.set(4, 20);
        due.is("all are within 20", g.reading(4), 0);
    }

    private static void readingWithoutCommands() {
        due.promise(20);
        due.sentence("2: the distance from that, NONE without commands");
        due.row("without points", Steps.readings(new LatticeGestures()), NONE, NONE, NONE, 0, NONE);
        due.row("with a path", Steps.readings(Steps.drawn("0246")), NONE, NONE, NONE, 0, NONE);
        LatticeGestures g = Steps.draw(Steps.withCommands("0"), "0");
        due.row("with a command", Steps.readings(g), 0, 0, 0, 1, 0);
        g.forget(0);
        due.row("without it", Steps.readings(g), NONE, NONE, NONE, 0, NONE);
    }

    // ---- count and setting

    private static void countWhats() {
        due.promise(21);
        due.sentence("Throws `IllegalArgumentException` if what is not 0 to 8");
        for (int what : new int[] {-1, 9, 10, MIN, MAX}) {
            due.refuses(LatticeGestures::new, "count " + what, Due.ARGUMENT, g -> g.count(what));
            due.refuses(Steps::sixSaved, "count " + what, Due.ARGUMENT, g -> g.count(what));
        }
    }

    private static void countsOfNothing() {
        due.promise(21);
        due.sentence("NONE with fewer than two");
        due.row("a new object", Steps.counts(new LatticeGestures()), 0, 0, 0, 0, 0, 0, 0, NONE, 0);
        due.row("one point", Steps.counts(Steps.withPath(3, 3)), 1, 0, 0, 0, 0, 0, 0, NONE, 1);
        due.row("one command", Steps.counts(Steps.withCommands("0")), 0, 0, 0, 0, 0, 1, 1, NONE, 1);
        due.row("two commands", Steps.counts(Steps.withCommands("0", "4")), 0, 0, 0, 0, 0, 2, 2, 6, 2);
        LatticeGestures fewer = Steps.withCommands("0", "4");
        fewer.forget(1);
        due.is("one again", fewer.count(7), NONE);
    }

    private static void countsOfTheGreatest() {
        due.promise(21);
        due.sentence("3: the length of all those runs together");
        LatticeGestures g = new LatticeGestures();
        for (int point = 0; point < 40; point++) {
            g.point(point % 2 * 31, point % 2 * 31);
        }
        due.row("39 runs of 31", Steps.counts(g), 40, 39, 39, 39 * 31, 0, 0, 0, NONE, 6);
        g.set(0, 9);
        due.is("length with none dropped", g.count(3), 39 * 31);
        LatticeGestures many = Steps.fullPath();
        many.set(0, 9);
        due.is("length with 38 dropped", many.count(3), 78);
        due.is("runs with 38 dropped", many.count(1), 39);
        due.is("directions with 38 dropped", many.count(2), 1);
        LatticeGestures long8 = new LatticeGestures();
        long8.set(4, 0);
        for (int command = 0; command < 8; command++) {
            StringBuilder stroke = new StringBuilder();
            for (int place = 0; place < 8; place++) {
                stroke.append((command + place) % 8);
            }
            Steps.commands(long8, stroke.toString());
        }
        Steps.commands(long8, "02020202", "20202020");
        due.is("ten commands", long8.count(5), 10);
        due.is("of eight directions each", long8.count(6), 80);
    }

    private static void countOfDropped() {
        due.promise(21);
        due.sentence("4: runs that were dropped (two that became one are not dropped)");
        LatticeGestures joined = Steps.withPath(0, 0, 5, 0, 5, 1, 9, 1);
        due.is("runs", joined.count(1), 3);
        due.is("directions", joined.count(2), 1);
        due.is("dropped", joined.count(4), 1);
        LatticeGestures twice = Steps.withPath(0, 0, 5, 0, 5, 1, 9, 1, 9, 2, 14, 2);
        due.is("runs", twice.count(1), 5);
        due.is("directions", twice.count(2), 1);
        due.is("dropped", twice.count(4), 2);
        due.is("none without runs", Steps.withPath(3, 3, 3, 3).count(4), 0);
    }

    private static void countOfLeastDistance() {
        due.promise(21);
        due.sentence("7: the least distance of two commands");
        String[][] rows = {{"0", "3", "4040"}, {"0", "4040", "3"}, {"4040", "0", "3"}, {"4040", "3", "0", "371737"},
                {"3", "371737", "4040", "0"}};
        for (String[] strokes : rows) {
            due.is("least distance", Steps.withCommands(strokes).count(7), 6);
        }
        LatticeGestures g = Steps.tenCommands();
        due.is("of ten", g.count(7), 2);
        g.set(2, 1);
        due.is("at 1", g.count(7), 1);
        LatticeGestures far = Steps.withCommands("0", "47474747");
        far.set(3, 9);
        far.set(2, 9);
        due.is("the greatest one", far.count(7), 7 * 9 + 9);
    }

    private static void settingArguments() {
        due.promise(22);
        due.sentence("Throws `IndexOutOfBoundsException` if there is no such setting");
        for (int setting : new int[] {-1, 5, 6, MIN, MAX}) {
            due.refuses(Steps::sixSaved, "setting " + setting, Due.INDEX, g -> g.setting(setting));
        }
        LatticeGestures g = new LatticeGestures();
        due.is("setting 0", g.setting(0), 2);
        due.is("setting 4", g.setting(4), 2);
        g.set(0, 9);
        g.set(4, 20);
        due.is("setting 0 then", g.setting(0), 9);
        due.is("setting 4 then", g.setting(4), 20);
        g.undo();
        due.is("setting 4, undone", g.setting(4), 2);
    }
}
