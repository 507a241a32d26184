import java.util.ArrayDeque;
import java.util.Deque;
import java.util.Map;
import java.util.Random;
import java.util.TreeMap;

/**
 * Random runs (the same ones each time), compared with Model call by call. A run keeps to 512 calls:
 * a digest stands behind each of its 249 calls, and behind each of 6 undos at last.
 */
public final class RandomRunsTest {
    private static final int RUNS = 210;
    private static final int CALLS = 249;
    private static final int MOST_SAVED = 6;
    private static final int UNDO = 12;
    private static final int[] WILD = {Integer.MIN_VALUE, Integer.MAX_VALUE, -1, -2, 8, 9, 10, 31, 32, 40, 60, 65536};
    private static final String[] KINDS = {"point", "go", "back", "begin", "turn", "learn", "read", "forget", "set",
            "append", "clearBuffer", "firstError", "undo", "pointOf", "run", "stroke", "strokeOf", "distance",
            "reading", "count", "setting", "ifPoint", "against", "mostForgiven", "straightness", "doubt", "type"};

    /** How often each kind of KINDS comes in a run; "type" clears the buffer and types a good stroke. */
    private static final int[][] PROFILES = {
            {6, 6, 2, 1, 2, 3, 2, 1, 2, 3, 1, 1, 2, 2, 2, 2, 2, 2, 2, 2, 1, 2, 1, 1, 1, 1, 3},
            {40, 9, 2, 0, 2, 1, 3, 1, 2, 1, 0, 0, 2, 1, 1, 1, 0, 1, 2, 1, 0, 3, 1, 0, 1, 1, 2},
            {6, 1, 1, 1, 1, 5, 20, 1, 4, 1, 0, 1, 1, 0, 0, 0, 2, 3, 3, 2, 1, 2, 2, 2, 0, 2, 20},
            {3, 1, 1, 1, 0, 1, 1, 0, 1, 80, 1, 5, 1, 0, 0, 0, 0, 0, 1, 1, 0, 0, 0, 0, 0, 0, 0},
            {9, 9, 2, 2, 20, 5, 4, 2, 2, 1, 0, 0, 20, 1, 1, 1, 0, 1, 2, 1, 0, 3, 1, 0, 1, 1, 4}};

    private record Call(int kind, int a, int b) {
        String told() {
            return KINDS[kind] + " of " + a + ", " + b;
        }
    }

    private static final Map<String, Integer> seen = new TreeMap<>();

    private final Random random;
    private final int[] profile;
    private final int wildness;
    private final LatticeGestures gestures = new LatticeGestures();
    private final Model model = new Model();
    private final Deque<Call> coming = new ArrayDeque<>();

    private RandomRunsTest(int seed) {
        random = new Random(seed);
        profile = PROFILES[seed % PROFILES.length];
        wildness = seed % 4 == 0 ? 8 : 60;
        if (seed % 3 == 0) {
            coming.add(new Call(8, 4, 0));
        }
        if (seed % 7 == 0) {
            coming.add(new Call(8, 0, 1));
        }
    }

    public static void main(String[] args) {
        int wrong = 0;
        for (int seed = 0; seed < RUNS && wrong < 5; seed++) {
            wrong += new RandomRunsTest(seed).isAsDue(seed) ? 0 : 1;
        }
        System.out.println("RandomRunsTest: " + RUNS + " runs, " + wrong + " wrong");
        String[] wanted = {"40 points", "10 commands", "60 characters", "learn answers", "read answers",
                "turn answers", "read as one", "still to come", "8 directions left", "6 saved"};
        for (String kind : wanted) {
            if (wrong == 0 && seen.getOrDefault(kind, 0) < 10) {
                System.out.println("RandomRunsTest: hardly a run came to " + kind);
                wrong++;
            }
        }
        for (String kind : KINDS) {
            if (wrong == 0 && !kind.equals("type") && seen.getOrDefault(kind + " answers", 0) < 10) {
                System.out.println("RandomRunsTest: hardly a call of " + kind + " was answered");
                wrong++;
            }
        }
        if (wrong > 0) {
            System.exit(1);
        }
    }

    private boolean isAsDue(int seed) {
        for (int number = 0; number < CALLS + MOST_SAVED; number++) {
            Call call = number < CALLS ? nextCall() : new Call(UNDO, 0, 0);
            String got = answer(true, call);
            String want = answer(false, call);
            if (!got.equals(want)) {
                System.out.println("run " + seed + ", call " + number + ": " + call.told() + " answered " + got
                        + ", due is " + want);
                return false;
            }
            note(call, want);
            if (gestures.digest() != model.digest()) {
                System.out.println("run " + seed + ", call " + number + ": the digests differ after " + call.told());
                return false;
            }
        }
        return true;
    }

    private void note(Call call, String answer) {
        if (!answer.startsWith("class")) {
            seen.merge(KINDS[call.kind] + " answers", 1, Integer::sum);
        }
        seen.merge(model.count(0) + " points", 1, Integer::sum);
        seen.merge(model.count(5) + " commands", 1, Integer::sum);
        seen.merge(model.count(8) + " saved", 1, Integer::sum);
        seen.merge(model.count(2) + " directions left", 1, Integer::sum);
        if (model.reading(0) >= 0) {
            seen.merge("read as one", 1, Integer::sum);
        }
        if (model.reading(4) > 0) {
            seen.merge("still to come", 1, Integer::sum);
        }
        if (KINDS[call.kind].equals("append") && answer.equals("60")) {
            seen.merge("60 characters", 1, Integer::sum);
        }
    }

    private Call nextCall() {
        if (coming.isEmpty()) {
            int sum = 0;
            for (int weight : profile) {
                sum += weight;
            }
            int left = random.nextInt(sum);
            int kind = 0;
            while (left >= profile[kind]) {
                left -= profile[kind];
                kind++;
            }
            if (KINDS[kind].equals("type")) {
                type();
            } else {
                coming.add(new Call(kind, argument(kind, 0), argument(kind, 1)));
            }
        }
        return coming.remove();
    }

    private void type() {
        coming.add(new Call(10, 0, 0));
        int length = 1 + random.nextInt(8);
        int direction = random.nextInt(8);
        for (int place = 0; place < length; place++) {
            coming.add(new Call(9, '0' + direction, 0));
            direction = (direction + 1 + random.nextInt(7)) % 8;
        }
        coming.add(new Call(6, 0, 0));
    }

    /** Mostly an argument that the call takes, now and then a wild one. */
    private int argument(int kind, int place) {
        if (random.nextInt(wildness) == 0) {
            return WILD[random.nextInt(WILD.length)];
        }
        int command = random.nextInt(Math.max(1, model.count(5)));
        boolean isFirst = place == 0;
        return switch (KINDS[kind]) {
            case "point", "ifPoint" -> random.nextInt(3) == 0 ? random.nextInt(32) : 10 + random.nextInt(8);
            case "go" -> isFirst ? random.nextInt(8) : 1 + random.nextInt(random.nextInt(5) == 0 ? 31 : 5);
            case "back" -> 1 + random.nextInt(random.nextInt(4) == 0 ? 40 : 3);
            case "turn" -> 1 + random.nextInt(7);
            case "forget" -> command;
            case "distance" -> isFirst || random.nextBoolean() ? command : -1;
            case "set" -> isFirst ? random.nextInt(5) : random.nextInt(10);
            case "append" -> random.nextInt(12) == 0 ? 33 + random.nextInt(94) : '0' + random.nextInt(8);
            case "pointOf" -> isFirst ? random.nextInt(Math.max(1, model.count(0))) : random.nextInt(4);
            case "run" -> isFirst ? random.nextInt(1 + model.count(1)) : random.nextInt(4);
            case "stroke" -> random.nextInt(1 + model.count(2));
            case "strokeOf" -> isFirst ? command : random.nextInt(9);
            case "reading", "setting" -> random.nextInt(5);
            case "count" -> random.nextInt(9);
            default -> 0;
        };
    }

    private String answer(boolean ofClass, Call call) {
        try {
            return ofClass ? ofClass(gestures, call.kind, call.a, call.b) : ofModel(model, call.kind, call.a, call.b);
        } catch (IllegalArgumentException | IllegalStateException | IndexOutOfBoundsException thrown) {
            return thrown.getClass().toString();
        }
    }

    private static String ofClass(LatticeGestures g, int kind, int a, int b) {
        return switch (KINDS[kind]) {
            case "point" -> "" + g.point(a, b);
            case "go" -> "" + g.go(a, b);
            case "back" -> "" + g.back(a);
            case "begin" -> "" + g.begin();
            case "turn" -> "" + g.turn(a);
            case "learn" -> "" + g.learn();
            case "read" -> "" + g.read();
            case "forget" -> "" + g.forget(a);
            case "set" -> "" + g.set(a, b);
            case "append" -> "" + g.append(a);
            case "clearBuffer" -> "" + g.clearBuffer();
            case "firstError" -> "" + g.firstError();
            case "undo" -> "" + g.undo();
            case "pointOf" -> "" + g.pointOf(a, b);
            case "run" -> "" + g.run(a, b);
            case "stroke" -> "" + g.stroke(a);
            case "strokeOf" -> "" + g.strokeOf(a, b);
            case "distance" -> "" + g.distance(a, b);
            case "reading" -> "" + g.reading(a);
            case "count" -> "" + g.count(a);
            case "setting" -> "" + g.setting(a);
            case "ifPoint" -> "" + g.ifPoint(a, b);
            case "against" -> "" + g.against();
            case "mostForgiven" -> "" + g.mostForgiven();
            case "straightness" -> "" + g.straightness();
            default -> "" + g.doubt();
        };
    }

    private static String ofModel(Model m, int kind, int a, int b) {
        return switch (KINDS[kind]) {
            case "point" -> "" + m.point(a, b);
            case "go" -> "" + m.go(a, b);
            case "back" -> "" + m.back(a);
            case "begin" -> "" + m.begin();
            case "turn" -> "" + m.turn(a);
            case "learn" -> "" + m.learn();
            case "read" -> "" + m.read();
            case "forget" -> "" + m.forget(a);
            case "set" -> "" + m.set(a, b);
            case "append" -> "" + m.append(a);
            case "clearBuffer" -> "" + m.clearBuffer();
            case "firstError" -> "" + m.firstError();
            case "undo" -> "" + m.undo();
            case "pointOf" -> "" + m.pointOf(a, b);
            case "run" -> "" + m.run(a, b);
            case "stroke" -> "" + m.stroke(a);
            case "strokeOf" -> "" + m.strokeOf(a, b);
            case "distance" -> "" + m.distance(a, b);
            case "reading" -> "" + m.reading(a);
            case "count" -> "" + m.count(a);
            case "setting" -> "" + m.setting(a);
            case "ifPoint" -> "" + m.ifPoint(a, b);
            case "against" -> "" + m.against();
            case "mostForgiven" -> "" + m.mostForgiven();
            case "straightness" -> "" + m.straightness();
            default -> "" + m.doubt();
        };
    }
}
