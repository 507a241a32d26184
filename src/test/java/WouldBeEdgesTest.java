import java.math.BigInteger;
import java.util.Arrays;

/** The edges of promises 23 to 28, sentence by sentence of the document. */
public final class WouldBeEdgesTest {
    private static final int NONE = LatticeGestures.NONE;
    private static final int MIN = Integer.MIN_VALUE;
    private static final int MAX = Integer.MAX_VALUE;
    private static final Due due = new Due("WouldBeEdgesTest");

    public static void main(String[] args) {
        ifPointArguments();
        ifPointAsReading();
        ifPointWith40Points();
        ifPointWithAll40Runs();
        ifPointChangesNothing();
        againstTwiceTheForgiven();
        againstTheLowest();
        againstForOtherReasons();
        mostForgivenAt20();
        mostForgivenByTwo();
        mostForgivenCanBeSet();
        straightWithoutLength();
        straightAndClosed();
        straightByTheGreaterDifference();
        straightAheadOfForgiving();
        doubtWithFewCommands();
        doubtByTheNextNearest();
        doubtAtTheLeast();
        digestOfNew();
        digestOfAPath();
        digestOfAllKinds();
        digestOfFullBuffer();
        digestWrapsAround();
        digestAtThePoint31And0();
        digestByEachPart();
        due.end();
    }

    // ---- ifPoint

    private static void ifPointArguments() {
        due.promise(23);
        due.sentence("Throws `IllegalArgumentException` if an argument is out of range");
        int[][] wrong = {{-1, 0}, {32, 0}, {0, -1}, {0, 32}, {-1, 32}, {MIN, 0}, {MAX, 0}, {0, MIN}, {0, MAX}};
        for (int[] xy : wrong) {
            String what = "ifPoint " + xy[0] + ", " + xy[1];
            due.refuses(Steps::sixSaved, what, Due.ARGUMENT, g -> g.ifPoint(xy[0], xy[1]));
            due.refuses(Steps::fullPath, what + " with 40 points", Due.ARGUMENT, g -> g.ifPoint(xy[0], xy[1]));
        }
        LatticeGestures g = Steps.path(Steps.tenCommands(), 15, 15);
        due.is("ifPoint 31, 31", g.ifPoint(31, 31), 1);
        due.is("ifPoint 0, 31", g.ifPoint(0, 31), 3);
        due.is("ifPoint 0, 0", g.ifPoint(0, 0), 5);
        due.is("ifPoint 31, 0", g.ifPoint(31, 0), 7);
    }

    private static void ifPointAsReading() {
        due.promise(23);
        due.sentence("Returns what reading(0) would tell then");
        LatticeGestures empty = Steps.withCommands("0");
        empty.set(4, 20);
        due.is("the first point makes no run", empty.ifPoint(0, 0), NONE);
        due.is("nor does it far away", empty.ifPoint(31, 31), NONE);
        empty.point(31, 31);
        due.is("the same point makes no run", empty.ifPoint(31, 31), NONE);
        due.is("another one does", empty.ifPoint(30, 31), 0);
        due.is("without commands", Steps.drawn("0").ifPoint(3, 3), NONE);
        LatticeGestures at = Steps.path(Steps.withCommands("0"), 5, 5);
        due.is("at 2, 2", at.ifPoint(9, 9), 0);
        at.set(4, 1);
        due.is("at 2, 1", at.ifPoint(9, 9), NONE);
        LatticeGestures shorter = Steps.path(Steps.withCommands("02"), 5, 5, 9, 5);
        due.is("a short run is forgiven", shorter.ifPoint(9, 6), NONE);
        due.is("a run of 2 is not", shorter.ifPoint(9, 7), 0);
        shorter.set(0, 1);
        due.is("a run of 1 is not short then", shorter.ifPoint(9, 6), 0);
    }

    private static void ifPointWith40Points() {
        due.promise(23);
        due.sentence("(whether there are 40 points does not matter)");
        LatticeGestures g = Steps.withCommands("6");
        for (int point = 0; point < 39; point++) {
            g.point(5, 9);
        }
        due.is("with 39 points", g.ifPoint(5, 5), 0);
        g.point(5, 9);
        due.is("with 40 points", g.ifPoint(5, 5), 0);
        due.is("with 40 points to the other side", g.ifPoint(9, 9), NONE);
        due.is("points after that", g.count(0), 40);
        due.refused(g, "point itself", Due.STATE, () -> g.point(5, 5));
    }

    private static void ifPointWithAll40Runs() {
        due.promise(23);
        due.sentence("(whether there are 40 points does not matter)");
        LatticeGestures g = Steps.path(Steps.withCommands("02"), 3, 3);
        for (int point = 1; point < 40; point++) {
            g.point(point % 2 == 1 ? 8 : 7, 3);
        }
        due.is("39 runs", g.count(1), 39);
        due.row("stroke", Steps.stroke(g), 0);
        due.is("a run 40 that is long enough", g.ifPoint(8, 8), 0);
        due.is("a run 40 that is too short", g.ifPoint(8, 4), NONE);
        due.is("runs after that", g.count(1), 39);
    }

    private static void ifPointChangesNothing() {
        due.promise(23);
        due.sentence("---- what would be; nothing is changed.");
        due.keeps(Steps::fullPath, "ifPoint with 40 points", g -> g.ifPoint(0, 0));
        due.keeps(Steps::sixSaved, "ifPoint", g -> g.ifPoint(31, 31));
        due.keeps(() -> Steps.draw(Steps.withCommands("04", "2"), "0"), "ifPoint that would be read",
                g -> g.ifPoint(9, 15));
        LatticeGestures g = Steps.draw(Steps.withCommands("04", "2"), "0");
        g.ifPoint(9, 15);
        due.is("a call after it", g.turn(4), 2);
        due.row("points after it", Steps.points(g), 15, 15, 13, 15);
    }

    // ---- against

    private static void againstTwiceTheForgiven() {
        due.promise(24);
        due.sentence("if that is at most 2 times setting 4");
        due.is("at 0", Steps.draw(Steps.withCommands("0"), "0").against(), 0);
        due.is("at 4, 2", Steps.draw(Steps.withCommands("0"), "2").against(), 0);
        due.is("at 5, 2", Steps.draw(Steps.withCommands("04"), "1").against(), NONE);
        LatticeGestures g = Steps.draw(Steps.withCommands("0"), "1");
        g.set(4, 1);
        due.is("at 2, 1", g.against(), 0);
        g.set(2, 3);
        due.is("at 3, 1", g.against(), NONE);
        g.set(4, 0);
        g.set(2, 1);
        due.is("at 1, 0", g.against(), NONE);
        g.begin();
        due.is("at 0, 0", Steps.draw(g, "0").against(), 0);
        LatticeGestures most = Steps.draw(Steps.withCommands("1"), "140404");
        most.set(2, 9);
        most.set(3, 8);
        most.set(4, 20);
        due.is("distance", most.distance(0, NONE), 40);
        due.is("at 40, 20", most.against(), 0);
        most.begin();
        Steps.draw(most, "04040");
        due.is("distance", most.distance(0, NONE), 41);
        due.is("at 41, 20", most.against(), NONE);
    }

    private static void againstTheLowest() {
        due.promise(24);
        due.sentence("of several the lowest one; NONE if there is none");
        due.is("without commands", new LatticeGestures().against(), NONE);
        due.is("without commands, with a path", Steps.drawn("0").against(), NONE);
        LatticeGestures g = new LatticeGestures();
        g.set(4, 1);
        Steps.commands(g, "46", "7", "1", "57");
        Steps.draw(g, "0");
        due.is("1 and 2 are at 2", g.against(), 1);
        g.forget(1);
        due.is("then 1 again, that was 2", g.against(), 1);
        g.forget(1);
        due.is("then none is near enough", g.against(), NONE);
        due.is("the last one of ten", Steps.draw(Steps.tenCommands(), "04").against(), 9);
    }

    private static void againstForOtherReasons() {
        due.promise(24);
        due.sentence("(whether learn() would throw an exception for another reason does not matter)");
        due.is("without points, at 3", Steps.withCommands("0").against(), 0);
        due.is("without runs, at 3", Steps.path(Steps.withCommands("0"), 3, 3, 3, 3).against(), 0);
        due.is("without points, at 6", Steps.withCommands("04").against(), NONE);
        LatticeGestures nine = Steps.draw(Steps.withCommands("02460246"), "024602460");
        due.is("9 directions, at 3", nine.against(), 0);
        due.refused(nine, "learn", Due.STATE, () -> nine.learn());
        due.is("10 commands", Steps.draw(Steps.tenCommands(), "3").against(), 3);
        due.is("10 commands, none of them", Steps.draw(Steps.tenCommands(), "0246").against(), NONE);
    }

    // ---- mostForgiven

    private static void mostForgivenAt20() {
        due.promise(25);
        due.sentence("Returns the greatest value, 0 to 20, that the setting 4 could have");
        due.is("without commands", new LatticeGestures().mostForgiven(), 20);
        due.is("with one", Steps.withCommands("0").mostForgiven(), 20);
        LatticeGestures g = Steps.withCommands("1", "04040");
        g.set(2, 9);
        g.set(3, 8);
        due.is("least distance", g.count(7), 41);
        due.is("at 41", g.mostForgiven(), 20);
        g.set(2, 8);
        due.is("least distance", g.count(7), 40);
        due.is("at 40", g.mostForgiven(), 19);
        g.set(3, 9);
        g.set(2, 9);
        due.is("at 45", g.mostForgiven(), 20);
        g.set(2, 2);
        due.is("at 38", g.mostForgiven(), 18);
        g.set(2, 3);
        due.is("at 39", g.mostForgiven(), 19);
        g.forget(0);
        due.is("with one again", g.mostForgiven(), 20);
    }

    private static void mostForgivenByTwo() {
        due.promise(25);
        due.sentence("Any two commands always have a distance above 2 times setting 4.");
        LatticeGestures g = new LatticeGestures();
        g.set(4, 0);
        g.set(3, 9);
        g.set(2, 1);
        Steps.commands(g, "0", "1", "5");
        int[] most = {0, 0, 1, 1, 2, 2, 3, 3, 4};
        for (int distance = 1; distance <= 9; distance++) {
            g.set(2, distance);
            due.is("least distance", g.count(7), distance);
            due.is("at " + distance, g.mostForgiven(), most[distance - 1]);
        }
        g.set(4, 4);
        due.is("whatever is forgiven", g.mostForgiven(), 4);
    }

    private static void mostForgivenCanBeSet() {
        due.promise(25);
        due.sentence("Finds how much could be forgiven.");
        for (int gap = 3; gap <= 9; gap++) {
            LatticeGestures g = Steps.withCommands("0", "0462");
            g.set(3, gap);
            int most = g.mostForgiven();
            due.is("at " + 3 * gap, most, (3 * gap - 1) / 2);
            due.is("set that", g.set(4, most), 2);
            due.refused(g, "set one more", Due.STATE, () -> g.set(4, most + 1));
        }
        due.keeps(() -> Steps.withCommands("0", "0462"), "mostForgiven", g -> g.mostForgiven());
    }

    // ---- straightness

    private static void straightnessIs(LatticeGestures g, int reach, int total) {
        due.is("length", g.count(3), total);
        due.is(reach + " of " + total, g.straightness(), Float.floatToIntBits((float) reach / (float) total));
    }

    private static void straightWithoutLength() {
        due.promise(26);
        due.sentence("the bits of 1.0f if that length is 0.");
        due.is("the bits of 1.0f", Float.floatToIntBits(1.0f), 1065353216);
        due.is("without points", new LatticeGestures().straightness(), 1065353216);
        due.is("one point", Steps.withPath(31, 0).straightness(), 1065353216);
        due.is("two same points", Steps.withPath(3, 9, 3, 9).straightness(), 1065353216);
        due.is("a step of 1", Steps.withPath(3, 9, 3, 8).straightness(), 1065353216);
        due.is("31 steps", Steps.withPath(0, 0, 31, 31).straightness(), 1065353216);
        LatticeGestures g = Steps.withPath(3, 3, 9, 3, 3, 3);
        g.begin();
        due.is("without points again", g.straightness(), 1065353216);
    }

    private static void straightAndClosed() {
        due.promise(26);
        due.sentence("Returns the bits (as Float.floatToIntBits) of a float");
        due.is("there and back", Steps.withPath(3, 3, 4, 3, 3, 3).straightness(), 0);
        due.is("around", Steps.withPath(0, 0, 31, 0, 31, 31, 0, 31, 0, 0).straightness(), 0);
        for (int x = 1; x <= 31; x++) {
            straightnessIs(Steps.withPath(0, 0, 31, 0, x, 0), x, 62 - x);
        }
        LatticeGestures longest = Steps.withPath(0, 0);
        for (int point = 1; point < 39; point++) {
            longest.point(0, point % 2 * 31);
        }
        longest.point(0, 1);
        straightnessIs(longest, 1, 38 * 31 + 1);
        longest.back(1);
        longest.point(0, 31);
        straightnessIs(longest, 31, 39 * 31);
    }

    private static void straightByTheGreaterDifference() {
        due.promise(26);
        due.sentence("the greater one of the differences of x and y of the last and the first point, without their "
                + "signs, as a float, divided by the length of all runs together");
        int[][] ends = {{7, 3}, {3, 7}, {-7, 3}, {-3, 7}, {7, -3}, {3, -7}, {-7, -3}, {-3, -7}, {7, 7}, {-7, -7},
                {7, 0}, {0, 7}, {-7, 0}, {0, -7}};
        for (int[] end : ends) {
            LatticeGestures g = Steps.withPath(15, 15, 15, 31, 15, 15, 15 + end[0], 15 + end[1]);
            straightnessIs(g, 7, 16 + 16 + 7);
        }
    }

    private static void straightAheadOfForgiving() {
        due.promise(26);
        due.sentence("divided by the length of all runs together, ahead of any forgiving");
        LatticeGestures g = Steps.withPath(3, 3, 9, 3, 9, 4, 10, 4, 10, 3);
        due.is("dropped", g.count(4), 2);
        straightnessIs(g, 7, 9);
        g.set(0, 9);
        straightnessIs(g, 7, 9);
        g.set(0, 1);
        straightnessIs(g, 7, 9);
    }

    // ---- doubt

    private static void doubtWithFewCommands() {
        due.promise(27);
        due.sentence("0.0 with fewer than two commands, or if the latter is 0.");
        due.is("without commands", new LatticeGestures().doubt(), 0.0);
        due.is("without commands, with a path", Steps.drawn("0").doubt(), 0.0);
        due.is("with one, at 0", Steps.draw(Steps.withCommands("0"), "0").doubt(), 0.0);
        due.is("with one, at 8", Steps.draw(Steps.withCommands("0"), "4").doubt(), 0.0);
        LatticeGestures g = Steps.draw(Steps.withCommands("0", "4"), "1");
        due.is("with two, at 2 and 6", g.doubt(), 2.0 / 6.0);
        g.forget(1);
        due.is("with one again", g.doubt(), 0.0);
    }

    private static void doubtByTheNextNearest() {
        due.promise(27);
        due.sentence("divided by the distance from the next nearest one (of the others the one with the least "
                + "distance)");
        due.is("the nearest comes last", Steps.draw(Steps.withCommands("2604", "4", "0"), "1").doubt(), 2.0 / 6.0);
        due.is("the nearest comes first", Steps.draw(Steps.withCommands("0", "4", "2604"), "1").doubt(), 2.0 / 6.0);
        due.is("the next nearest comes last", Steps.draw(Steps.withCommands("0", "2604", "4"), "1").doubt(), 2.0 / 6.0);
        due.is("the next nearest comes first", Steps.draw(Steps.withCommands("4", "0", "2604"), "1").doubt(),
                2.0 / 6.0);
        due.is("at 0 and 2 of ten", Steps.draw(Steps.tenCommands(), "3").doubt(), 0.0);
        due.is("all ten without points", Steps.tenCommands().doubt(), 1.0);
        due.is("two same distances", Steps.draw(Steps.withCommands("0", "4", "2604"), "2").doubt(), 4.0 / 4.0);
    }

    private static void doubtAtTheLeast() {
        due.promise(27);
        due.sentence("or if the latter is 0.");
        LatticeGestures g = new LatticeGestures();
        g.set(4, 0);
        g.set(2, 1);
        g.set(3, 9);
        Steps.commands(g, "0", "2");
        due.is("at 1 and 1", Steps.draw(g, "1").doubt(), 1.0);
        g.begin();
        due.is("at 0 and 2", Steps.draw(g, "0").doubt(), 0.0);
        g.begin();
        due.is("at 1 and 3", Steps.draw(g, "7").doubt(), 1.0 / 3.0);
        LatticeGestures far = Steps.withCommands("0", "02460246");
        far.set(3, 9);
        due.is("at 9 and 72", far.doubt(), 9.0 / 72.0);
        due.keeps(() -> Steps.draw(Steps.withCommands("0", "4"), "1"), "doubt", h -> h.doubt());
    }

    // ---- digest

    /** The hash of these values, worked out without any overflow and cut to 64 bits at the end. */
    private static BigInteger wholeHash(long... values) {
        BigInteger hash = BigInteger.valueOf(2647);
        for (long value : values) {
            hash = hash.multiply(BigInteger.valueOf(31)).add(BigInteger.valueOf(value));
        }
        return hash;
    }

    private static long[] joined(long[]... rows) {
        long[] all = {};
        for (long[] row : rows) {
            int length = all.length;
            all = Arrays.copyOf(all, length + row.length);
            System.arraycopy(row, 0, all, length, row.length);
        }
        return all;
    }

    private static long[] of(long... values) {
        return values;
    }

    /** The values of a new object, in the order that the document tells, but for the buffer. */
    private static long[] valuesOfNew() {
        return joined(of(0, 0, 0, 0, 0, 0, 0, -1, 0), of(2, 2, 2, 3, 2), of(-1, -1, -1, 0, -1), of(-1, -1, 20),
                of(0x3f800000), of(0));
    }

    private static void digestOfNew() {
        due.promise(28);
        due.sentence("The hash starts at 2647.");
        due.is("a new object", new LatticeGestures().digest(), wholeHash(joined(valuesOfNew(), of(0))).longValue());
        due.is("another one", new LatticeGestures().digest(), new LatticeGestures().digest());
    }

    private static void digestOfAPath() {
        due.promise(28);
        due.sentence("for each point its numbers 0 to 3; for each run its numbers 0 to 3; the directions of the "
                + "stroke;");
        LatticeGestures g = Steps.withPath(0, 31, 0, 31, 9, 31, 11, 29, 11, 24);
        long[] values = joined(of(5, 3, 2, 16, 1, 0, 0, -1, 5), of(2, 2, 2, 3, 2),
                of(0, 31, -1, 0), of(0, 31, -1, 0), of(9, 31, 0, 9), of(11, 29, 7, 2), of(11, 24, 6, 5),
                of(0, 9, 0, 0), of(7, 2, 0, 1), of(6, 5, 0, 0), of(0, 6),
                of(-1, -1, -1, 0, -1), of(-1, -1, 20), of(Float.floatToIntBits(11.0f / 16.0f)), of(0), of(0));
        due.is("a path with a cut corner", g.digest(), wholeHash(values).longValue());
        LatticeGestures one = Steps.withPath(31, 0);
        long[] ofOne = joined(of(1, 0, 0, 0, 0, 0, 0, -1, 1), of(2, 2, 2, 3, 2), of(31, 0, -1, 0),
                of(-1, -1, -1, 0, -1), of(-1, -1, 20), of(0x3f800000), of(0), of(0));
        due.is("a path of one point", one.digest(), wholeHash(ofOne).longValue());
    }

    private static void digestOfAllKinds() {
        due.promise(28);
        due.sentence("for each command the directions of its stroke, and its distances from the path and from the "
                + "command 0; reading with 0 to 4; ifPoint of 31 and 0; against; mostForgiven; straightness; the bits "
                + "of doubt (as Double.doubleToLongBits); the length of the buffer and each of its character codes.");
        // Commands 04 and 2, seven apart; the stroke 0 is 3 from the one and 4 from the other.
        LatticeGestures g = Steps.type(Steps.path(Steps.withCommands("04", "2"), 3, 3, 3, 3, 8, 3, 8, 4), "7!~");
        long[] values = joined(of(4, 2, 1, 6, 1, 2, 3, 7, 6), of(2, 2, 2, 3, 2),
                of(3, 3, -1, 0), of(3, 3, -1, 0), of(8, 3, 0, 5), of(8, 4, 2, 1),
                of(0, 5, 0, 0), of(2, 1, 1, 0), of(0),
                of(0, 4), of(3, 0), of(2), of(4, 7),
                of(-1, 0, 3, 1, 1), of(-1, 0, 3), of(Float.floatToIntBits(5.0f / 6.0f)),
                of(0x3fe8000000000000L), of(3, '7', '!', '~'));
        due.is("commands, a path and a buffer", g.digest(), wholeHash(values).longValue());
    }

    private static void digestOfFullBuffer() {
        due.promise(28);
        due.sentence("the length of the buffer and each of its character codes.");
        LatticeGestures g = new LatticeGestures();
        long[] codes = new long[60];
        for (int place = 0; place < 60; place++) {
            codes[place] = 126 - place;
            g.append(126 - place);
        }
        due.is("60 characters", g.digest(), wholeHash(joined(valuesOfNew(), of(60), codes)).longValue());
        g.clearBuffer();
        due.is("none again", g.digest(), wholeHash(joined(valuesOfNew(), of(0))).longValue());
        due.is("the least code", Steps.type(g, "!").digest(),
                wholeHash(joined(valuesOfNew(), of(1, 33))).longValue());
    }

    private static void digestWrapsAround() {
        due.promise(28);
        due.sentence("the hash becomes 31 * hash + v, in long arithmetic with overflow.");
        BigInteger whole = wholeHash(joined(valuesOfNew(), of(0)));
        due.is("the whole number is far beyond 64 bits", whole.bitLength() > 100 ? 1 : 0, 1);
        due.is("and is cut to them", new LatticeGestures().digest(), whole.longValue());
        int below = 0;
        int above = 0;
        for (int code = 33; code <= 126; code++) {
            LatticeGestures g = Steps.type(new LatticeGestures(), "~~" + (char) code + "~~~~~~~~~~~~~~~~");
            long[] buffer = new long[20];
            Arrays.fill(buffer, '~');
            buffer[0] = 19;
            buffer[3] = code;
            long want = wholeHash(joined(valuesOfNew(), buffer)).longValue();
            due.is("wrapped around with " + code, g.digest(), want);
            below += want < 0 ? 1 : 0;
            above += want > 0 ? 1 : 0;
        }
        due.is("some of them are below 0, some above", below > 10 && above > 10 ? 1 : 0, 1);
    }

    private static void digestAtThePoint31And0() {
        due.promise(28);
        due.sentence("ifPoint of 31 and 0;");
        // From 30, 0 only x 31 makes a step to the right; from 31, 1 only y 0 makes one down.
        LatticeGestures right = Steps.path(Steps.withCommands("0"), 30, 0);
        due.is("ifPoint 31, 0", right.ifPoint(31, 0), 0);
        due.is("ifPoint 30, 0", right.ifPoint(30, 0), NONE);
        due.is("digest", right.digest(), digestOfOnePoint(30, 0, 0).longValue());
        LatticeGestures down = Steps.path(Steps.withCommands("6"), 31, 1);
        due.is("ifPoint 31, 0", down.ifPoint(31, 0), 0);
        due.is("ifPoint 31, 1", down.ifPoint(31, 1), NONE);
        due.is("digest", down.digest(), digestOfOnePoint(31, 1, 6).longValue());
        LatticeGestures full = Steps.fullPath();
        due.is("with 40 points it is told as well", full.digest(), Steps.fullPath().digest());
    }

    /** Of a path of one point and a command of one direction, as which it would be read with 31, 0. */
    private static BigInteger digestOfOnePoint(int x, int y, int direction) {
        return wholeHash(joined(of(1, 0, 0, 0, 0, 1, 1, -1, 2), of(2, 2, 2, 3, 2), of(x, y, -1, 0),
                of(direction), of(3, 0), of(-1, 0, 3, 1, 1), of(0, 0, 20), of(0x3f800000), of(0), of(0)));
    }

    private static void digestByEachPart() {
        due.promise(28);
        due.sentence("Computes a hash of the whole state.");
        due.keeps(() -> Steps.type(Steps.draw(Steps.withCommands("04", "2"), "0"), "1"), "digest", g -> g.digest());
        for (int setting = 0; setting < 5; setting++) {
            LatticeGestures g = new LatticeGestures();
            g.set(setting, 9);
            long[] values = valuesOfNew();
            values[8] = 1;
            values[9 + setting] = 9;
            due.is("setting " + setting, g.digest(), wholeHash(joined(values, of(0))).longValue());
        }
        for (int saved = 1; saved <= 7; saved++) {
            LatticeGestures g = new LatticeGestures();
            for (int call = 0; call < saved; call++) {
                g.begin();
            }
            long[] values = valuesOfNew();
            values[8] = Math.min(saved, 6);
            due.is(saved + " calls that are saved", g.digest(), wholeHash(joined(values, of(0))).longValue());
        }
    }
}
