import java.util.ArrayList;
import java.util.List;

/** Promises 23 to 28: ifPoint, against, mostForgiven, straightness, doubt, digest. */
public final class WouldBeTest {
    private static final int MIN = Integer.MIN_VALUE;
    private static final int MAX = Integer.MAX_VALUE;
    private static final Due due = new Due("WouldBeTest");

    public static void main(String[] args) {
        ifPoint();
        ifPointBeyond40();
        against();
        mostForgiven();
        straightness();
        doubt();
        digest();
        due.end();
    }

    private static void ifPoint() {
        due.promise(23);
        LatticeGestures g = Steps.path(Steps.withCommands("46", "02"), 5, 5, 9, 5);
        long before = g.digest();
        due.is("02", g.ifPoint(9, 9), 1);
        due.is("03 is near enough", g.ifPoint(5, 9), 1);
        due.is("04 is not", g.ifPoint(5, 5), -1);
        due.is("a short run is dropped", g.ifPoint(9, 6), -1);
        due.is("the same point", g.ifPoint(9, 5), -1);
        due.is("nothing is changed", g.digest(), before);
        for (int[] xy : new int[][] {{-1, 0}, {0, -1}, {32, 0}, {0, 32}, {MIN, 0}, {0, MAX}}) {
            due.refused(g, "ifPoint out of range", Due.ARGUMENT, () -> g.ifPoint(xy[0], xy[1]));
        }
        g.point(9, 9);
        due.is("it is read like that", g.reading(0), 1);
        LatticeGestures one = Steps.withCommands("0");
        one.set(4, 20);
        due.is("one point has no runs", one.ifPoint(3, 3), -1);
        one.point(3, 3);
        due.is("two points have one", one.ifPoint(3, 4), 0);
    }

    private static void ifPointBeyond40() {
        LatticeGestures g = Steps.withCommands("6");
        int[] xs = {3, 5, 5, 3};
        int[] ys = {3, 3, 5, 5};
        for (int point = 0; point < 40; point++) {
            g.point(xs[point % 4], ys[point % 4]);
        }
        due.is("39 runs", g.count(1), 39);
        due.is("all of them are left", g.count(2), 39);
        g.set(0, 9);
        due.is("all but the last are dropped", g.count(4), 38);
        due.is("direction 4 is left", g.stroke(0), 4);
        due.is("it is not read", g.reading(0), -1);
        due.is("the 41st point", g.ifPoint(3, 3), 0);
        due.is("it is only tried", g.count(0), 40);
        due.is("the 41st point again", g.ifPoint(3, 3), 0);
    }

    private static void against() {
        due.promise(24);
        LatticeGestures g = Steps.withCommands("04", "2");
        due.is("without points, at 3", g.against(), 1);
        Steps.path(g, 5, 5, 9, 5);
        due.is("0 at distances 3 and 4", g.against(), 0);
        g.begin();
        Steps.path(g, 5, 5, 5, 9);
        due.is("2 itself", g.against(), 1);
        g.begin();
        Steps.path(g, 5, 9, 1, 9);
        due.is("4 at distances 3 and 4", g.against(), 0);
        g.forget(0);
        due.is("4 at distance 4", g.against(), 0);
        g.undo();
        g.begin();
        Steps.path(g, 9, 9, 5, 5);
        due.is("5 at distances 5 and 6", g.against(), -1);
        LatticeGestures tie = new LatticeGestures();
        tie.set(4, 1);
        Steps.commands(tie, "4", "0", "2");
        Steps.path(tie, 5, 5, 9, 9);
        due.is("of several the lowest", tie.against(), 1);
        tie.begin();
        due.is("at distance 3, above 2 times 1", tie.against(), -1);
        LatticeGestures none = Steps.withPath(5, 5, 9, 9);
        due.is("without commands", none.against(), -1);
        none.learn();
        due.is("what was learned", none.against(), 0);
    }

    private static void mostForgiven() {
        due.promise(25);
        LatticeGestures g = new LatticeGestures();
        due.is("without commands", g.mostForgiven(), 20);
        Steps.commands(g, "0");
        due.is("with one", g.mostForgiven(), 20);
        Steps.commands(g, "3");
        due.is("at distance 6", g.mostForgiven(), 2);
        g.set(4, 0);
        g.set(3, 2);
        due.is("at distance 4", g.mostForgiven(), 1);
        g.set(2, 1);
        due.is("at distance 3", g.mostForgiven(), 1);
        g.set(3, 1);
        due.is("at distance 2", g.mostForgiven(), 0);
        g.set(2, 9);
        g.set(3, 4);
        due.is("at distance 8", g.mostForgiven(), 3);
        due.is("set it", g.set(4, 3), 0);
        due.refused(g, "set one more", Due.STATE, () -> g.set(4, 4));
        LatticeGestures far = Steps.withCommands("04040404", "2");
        far.set(3, 6);
        far.set(2, 9);
        due.is("distance", far.distance(0, 1), 54);
        due.is("at most 20", far.mostForgiven(), 20);
        far.set(3, 5);
        far.set(2, 2);
        due.is("distance 39", far.distance(0, 1), 39);
        due.is("at distance 39", far.mostForgiven(), 19);
        far.set(2, 3);
        due.is("distance 41", far.distance(0, 1), 41);
        due.is("at distance 41", far.mostForgiven(), 20);
    }

    private static void straightness() {
        due.promise(26);
        due.is("without points", new LatticeGestures().straightness(), Float.floatToIntBits(1.0f));
        due.is("without runs", Steps.withPath(5, 5, 5, 5).straightness(), Float.floatToIntBits(1.0f));
        due.is("straight", Steps.withPath(5, 5, 9, 5, 12, 5).straightness(), Float.floatToIntBits(1.0f));
        due.is("closed", Steps.withPath(5, 5, 9, 5, 5, 5).straightness(), 0);
        due.is("4 of 7", Steps.withPath(9, 9, 5, 9, 5, 6).straightness(), Float.floatToIntBits(4.0f / 7.0f));
        due.is("4 of 6", Steps.withPath(20, 3, 17, 3, 16, 6).straightness(), Float.floatToIntBits(4.0f / 6.0f));
        due.is("5 of 5", Steps.withPath(3, 20, 4, 21, 2, 25).straightness(), Float.floatToIntBits(5.0f / 5.0f));
        due.is("4 of 8", Steps.withPath(25, 2, 23, 8, 25, 6).straightness(), Float.floatToIntBits(4.0f / 8.0f));
        due.is("3 of 5", Steps.withPath(9, 9, 8, 9, 9, 9, 9, 12).straightness(), Float.floatToIntBits(3.0f / 5.0f));
        LatticeGestures g = new LatticeGestures();
        for (int point = 0; point < 39; point++) {
            g.point(0, point % 2 == 0 ? 0 : 31);
        }
        due.is("closed and long", g.straightness(), 0);
        g.point(0, 1);
        due.is("1 of 1179", g.straightness(), Float.floatToIntBits(1.0f / 1179.0f));
        g.set(0, 9);
        due.is("dropped runs count too", g.straightness(), Float.floatToIntBits(1.0f / 1179.0f));
    }

    private static void doubt() {
        due.promise(27);
        due.is("without commands", new LatticeGestures().doubt(), 0.0);
        LatticeGestures g = Steps.path(Steps.withCommands("02"), 5, 5, 9, 5);
        due.is("with one", g.doubt(), 0.0);
        Steps.commands(g, "0246", "6");
        due.is("3 of 4", g.doubt(), 3.0 / 4.0);
        g.forget(2);
        due.is("3 of 9", g.doubt(), 3.0 / 9.0);
        g.begin();
        due.is("without runs, 6 of 12", g.doubt(), 6.0 / 12.0);
        Steps.path(g, 5, 5, 9, 5, 9, 9);
        due.is("read for sure", g.doubt(), 0.0);
        LatticeGestures tie = Steps.path(Steps.withCommands("7", "4", "246"), 5, 5, 5, 9);
        due.is("of several nearest ones", tie.doubt(), 4.0 / 6.0);
        tie.begin();
        due.is("3 of 3", tie.doubt(), 1.0);
    }

    private static void digest() {
        due.promise(28);
        LatticeGestures g = new LatticeGestures();
        due.is("of a new object", g.digest(), digestOf(g, ""));
        Steps.commands(g, "02", "0246", "46");
        Steps.path(g, 0, 0, 5, 0, 5, 0, 7, 2, 6, 2, 8, 4, 8, 9);
        Steps.type(g, "0~!");
        due.is("of a full one", g.digest(), digestOf(g, "0~!"));
        due.is("again", g.digest(), digestOf(g, "0~!"));
        LatticeGestures edge = Steps.withCommands("0");
        edge.set(4, 1);
        edge.point(20, 0);
        due.is("only the point 31, 0 would be read", edge.ifPoint(31, 0) - edge.ifPoint(31, 1), 1);
        due.is("that counts", edge.digest(), digestOf(edge, ""));
        g.set(1, 9);
        g.back(2);
        due.is("of a changed one", g.digest(), digestOf(g, "0~!"));
    }

    private static long digestOf(LatticeGestures g, String buffer) {
        List<Long> values = new ArrayList<>();
        addAll(values, Steps.counts(g));
        addAll(values, Steps.settings(g));
        for (int place = 0; place < g.count(0); place++) {
            addAll(values, g.pointOf(place, 0), g.pointOf(place, 1), g.pointOf(place, 2), g.pointOf(place, 3));
        }
        for (int place = 0; place < g.count(1); place++) {
            addAll(values, g.run(place, 0), g.run(place, 1), g.run(place, 2), g.run(place, 3));
        }
        addAll(values, Steps.stroke(g));
        for (int command = 0; command < g.count(5); command++) {
            addAll(values, Steps.strokeOf(g, command));
            addAll(values, g.distance(command, -1), g.distance(command, 0));
        }
        addAll(values, Steps.readings(g));
        addAll(values, g.ifPoint(31, 0), g.against(), g.mostForgiven(), g.straightness());
        values.add(Double.doubleToLongBits(g.doubt()));
        addAll(values, buffer.length());
        addAll(values, buffer.chars().toArray());
        long hash = 2647;
        for (long value : values) {
            hash = 31 * hash + value;
        }
        return hash;
    }

    private static void addAll(List<Long> values, int... more) {
        for (int value : more) {
            values.add((long) value);
        }
    }
}
