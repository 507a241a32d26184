import java.util.ArrayDeque;
import java.util.ArrayList;
import java.util.Deque;
import java.util.HashMap;
import java.util.List;
import java.util.Map;

/**
 * The document told once more, in another way than in the class: everything is worked out anew from
 * lists at each call, and by the words of the document. Only tests use it.
 */
final class Model {
    private static final int NONE = -1;
    private static final int[][] SIGNS = {{1, 0}, {1, 1}, {0, 1}, {-1, 1}, {-1, 0}, {-1, -1}, {0, -1}, {1, -1}};

    private record Point(int x, int y) {
    }

    private record Run(int direction, int length) {
    }

    private record Saved(List<Point> points, List<List<Integer>> commands, List<Integer> settings) {
    }

    private List<Point> points = List.of();
    private List<List<Integer>> commands = List.of();
    private List<Integer> settings = List.of(2, 2, 2, 3, 2);
    private String buffer = "";
    private final Deque<Saved> saved = new ArrayDeque<>();

    // ---- paths

    int point(int x, int y) {
        argument(on(x) && on(y));
        state(points.size() < 40);
        change(with(points, new Point(x, y)), commands, settings);
        return points.size();
    }

    int go(int direction, int many) {
        argument(direction >= 0 && direction <= 7 && many >= 1 && many <= 31);
        List<Point> then = new ArrayList<>(points);
        if (then.isEmpty()) {
            then.add(new Point(0, 0));
        }
        int steps = 0;
        while (steps < many) {
            Point last = then.get(then.size() - 1);
            Point next = new Point(last.x + SIGNS[direction][0], last.y + SIGNS[direction][1]);
            if (!on(next.x) || !on(next.y)) {
                break;
            }
            then.add(next);
            steps++;
        }
        state(then.size() <= 40);
        change(then, commands, settings);
        return steps;
    }

    int back(int many) {
        argument(many >= 1 && many <= points.size());
        change(points.subList(0, points.size() - many), commands, settings);
        return points.size();
    }

    int begin() {
        int before = points.size();
        change(List.of(), commands, settings);
        return before;
    }

    int turn(int eighths) {
        argument(eighths >= 1 && eighths <= 7);
        List<Point> then = new ArrayList<>();
        for (int i = 0; i < points.size(); i++) {
            if (i == 0) {
                then.add(points.get(0));
                continue;
            }
            int dx = Math.abs(points.get(i).x - points.get(i - 1).x);
            int dy = Math.abs(points.get(i).y - points.get(i - 1).y);
            state(dx == dy || dx == 0 || dy == 0);
            Point last = then.get(i - 1);
            int direction = stepDirection(points, i);
            if (direction != NONE) {
                int[] sign = SIGNS[(direction + eighths) % 8];
                int length = stepLength(points, i);
                last = new Point(last.x + sign[0] * length, last.y + sign[1] * length);
                state(on(last.x) && on(last.y));
            }
            then.add(last);
        }
        change(then, commands, settings);
        return points.size();
    }

    // ---- commands

    int learn() {
        List<Integer> stroke = strokeRow();
        state(commands.size() < 10);
        state(!stroke.isEmpty() && stroke.size() <= 8);
        return addCommand(stroke);
    }

    int read() {
        argument(buffer.matches("[0-7]{1,8}") && !buffer.matches(".*(.)\\1.*"));
        state(commands.size() < 10);
        List<Integer> stroke = new ArrayList<>();
        for (char digit : buffer.toCharArray()) {
            stroke.add(digit - '0');
        }
        int number = addCommand(stroke);
        buffer = "";
        return number;
    }

    private int addCommand(List<Integer> stroke) {
        for (List<Integer> command : commands) {
            state(between(stroke, command, settings) > 2 * settings.get(4));
        }
        change(points, with(commands, stroke), settings);
        return commands.size() - 1;
    }

    int forget(int command) {
        index(command >= 0 && command < commands.size());
        List<List<Integer>> then = new ArrayList<>(commands);
        then.remove(command);
        change(points, then, settings);
        return commands.size();
    }

    int set(int setting, int value) {
        index(setting >= 0 && setting <= 4);
        int least = setting == 1 || setting == 4 ? 0 : 1;
        argument(value >= least && value <= (setting == 4 ? 20 : 9));
        List<Integer> then = new ArrayList<>(settings);
        int before = then.set(setting, value);
        int apart = leastApart(then);
        state(apart == NONE || apart > 2 * then.get(4));
        change(points, commands, then);
        return before;
    }

    // ---- texts

    int append(int code) {
        argument(code >= 33 && code <= 126);
        state(buffer.length() < 60);
        buffer += (char) code;
        return buffer.length();
    }

    int clearBuffer() {
        int before = buffer.length();
        buffer = "";
        return before;
    }

    int firstError() {
        int good = 0;
        for (int length = 1; length <= buffer.length(); length++) {
            String start = buffer.substring(0, length);
            if (!start.matches("[0-7]{1,8}") || start.matches(".*(.)\\1.*")) {
                break;
            }
            good = length;
        }
        return good;
    }

    int undo() {
        state(!saved.isEmpty());
        Saved latest = saved.removeLast();
        points = latest.points;
        commands = latest.commands;
        settings = latest.settings;
        return saved.size();
    }

    // ---- looks

    int pointOf(int place, int what) {
        index(place >= 0 && place < points.size());
        argument(what >= 0 && what <= 3);
        return switch (what) {
            case 0 -> points.get(place).x;
            case 1 -> points.get(place).y;
            case 2 -> stepDirection(points, place);
            default -> stepLength(points, place);
        };
    }

    int run(int run, int what) {
        argument(run >= 0 && what >= 0 && what <= 3);
        List<Run> runs = runsOf(points);
        if (run >= runs.size()) {
            return NONE;
        }
        return switch (what) {
            case 0 -> runs.get(run).direction;
            case 1 -> runs.get(run).length;
            case 2 -> runs.get(run).length < settings.get(0) ? 1 : 0;
            default -> cut(runs, run) ? 1 : 0;
        };
    }

    int stroke(int place) {
        argument(place >= 0);
        return atOrNone(strokeRow(), place);
    }

    int strokeOf(int command, int place) {
        index(command >= 0 && command < commands.size());
        argument(place >= 0);
        return atOrNone(commands.get(command), place);
    }

    int distance(int command, int other) {
        index(command >= 0 && command < commands.size());
        index(other == NONE || (other >= 0 && other < commands.size()));
        return between(commands.get(command), other == NONE ? strokeRow() : commands.get(other), settings);
    }

    int reading(int what) {
        argument(what >= 0 && what <= 4);
        List<Integer> stroke = strokeRow();
        if (what == 0) {
            return readAs(points);
        }
        if (what <= 2) {
            int nearest = nearest(stroke, NONE);
            if (nearest == NONE) {
                return NONE;
            }
            return what == 1 ? nearest : between(stroke, commands.get(nearest), settings);
        }
        int mask = 0;
        int rest = NONE;
        for (int command = 0; command < commands.size(); command++) {
            List<Integer> whole = commands.get(command);
            for (int length = 0; length <= whole.size(); length++) {
                if (between(stroke, whole.subList(0, length), settings) <= settings.get(4)) {
                    mask |= 1 << command;
                    rest = whole.size() - length;
                }
            }
        }
        if (what == 3) {
            return mask;
        }
        return Integer.bitCount(mask) == 1 ? rest : NONE;
    }

    int count(int what) {
        argument(what >= 0 && what <= 8);
        return switch (what) {
            case 0 -> points.size();
            case 1 -> runsOf(points).size();
            case 2 -> strokeRow().size();
            case 3 -> runsOf(points).stream().mapToInt(Run::length).sum();
            case 4 -> forgive(runsOf(points), new ArrayList<>());
            case 5 -> commands.size();
            case 6 -> commands.stream().mapToInt(List::size).sum();
            case 7 -> leastApart(settings);
            default -> saved.size();
        };
    }

    int setting(int setting) {
        index(setting >= 0 && setting <= 4);
        return settings.get(setting);
    }

    // ---- what would be

    int ifPoint(int x, int y) {
        argument(on(x) && on(y));
        return readAs(with(points, new Point(x, y)));
    }

    int against() {
        int nearest = nearest(strokeRow(), NONE);
        if (nearest == NONE || distance(nearest, NONE) > 2 * settings.get(4)) {
            return NONE;
        }
        return nearest;
    }

    int mostForgiven() {
        int apart = leastApart(settings);
        int most = NONE;
        for (int value = 0; value <= 20; value++) {
            most = apart == NONE || apart > 2 * value ? value : most;
        }
        return most;
    }

    int straightness() {
        int total = count(3);
        if (total == 0) {
            return Float.floatToIntBits(1.0f);
        }
        Point first = points.get(0);
        Point last = points.get(points.size() - 1);
        int reach = Math.max(Math.abs(last.x - first.x), Math.abs(last.y - first.y));
        return Float.floatToIntBits((float) reach / total);
    }

    double doubt() {
        List<Integer> stroke = strokeRow();
        if (commands.size() < 2) {
            return 0.0;
        }
        List<Integer> all = new ArrayList<>();
        for (List<Integer> command : commands) {
            all.add(between(stroke, command, settings));
        }
        all.sort(null);
        return all.get(1) == 0 ? 0.0 : (double) all.get(0) / all.get(1);
    }

    long digest() {
        List<Long> values = new ArrayList<>();
        for (int what = 0; what <= 8; what++) {
            values.add((long) count(what));
        }
        settings.forEach(value -> values.add((long) value));
        for (int place = 0; place < points.size(); place++) {
            for (int what = 0; what <= 3; what++) {
                values.add((long) pointOf(place, what));
            }
        }
        int runs = count(1);
        for (int run = 0; run < runs; run++) {
            for (int what = 0; what <= 3; what++) {
                values.add((long) run(run, what));
            }
        }
        strokeRow().forEach(direction -> values.add((long) direction));
        for (int command = 0; command < commands.size(); command++) {
            commands.get(command).forEach(direction -> values.add((long) direction));
            values.add((long) distance(command, NONE));
            values.add((long) distance(command, 0));
        }
        for (int what = 0; what <= 4; what++) {
            values.add((long) reading(what));
        }
        values.add((long) ifPoint(31, 0));
        values.add((long) against());
        values.add((long) mostForgiven());
        values.add((long) straightness());
        values.add(Double.doubleToLongBits(doubt()));
        values.add((long) buffer.length());
        buffer.chars().forEach(code -> values.add((long) code));
        long hash = 2647;
        for (long value : values) {
            hash = 31 * hash + value;
        }
        return hash;
    }

    // ---- terms

    private static boolean on(int coordinate) {
        return coordinate >= 0 && coordinate <= 31;
    }

    private static int stepDirection(List<Point> points, int place) {
        if (place == 0) {
            return NONE;
        }
        int x = Integer.compare(points.get(place).x, points.get(place - 1).x);
        int y = Integer.compare(points.get(place).y, points.get(place - 1).y);
        for (int direction = 0; direction < 8; direction++) {
            if (SIGNS[direction][0] == x && SIGNS[direction][1] == y) {
                return direction;
            }
        }
        return NONE;
    }

    private static int stepLength(List<Point> points, int place) {
        if (place == 0) {
            return 0;
        }
        Point from = points.get(place - 1);
        Point to = points.get(place);
        return Math.max(Math.abs(to.x - from.x), Math.abs(to.y - from.y));
    }

    private static List<Run> runsOf(List<Point> points) {
        List<Run> runs = new ArrayList<>();
        for (int place = 1; place < points.size(); place++) {
            int direction = stepDirection(points, place);
            if (direction == NONE) {
                continue;
            }
            int length = stepLength(points, place);
            if (!runs.isEmpty() && runs.get(runs.size() - 1).direction == direction) {
                length += runs.remove(runs.size() - 1).length;
            }
            runs.add(new Run(direction, length));
        }
        return runs;
    }

    private static int turned(int direction, int other) {
        int turn = Math.abs(direction - other);
        return Math.min(turn, 8 - turn);
    }

    private boolean cut(List<Run> runs, int place) {
        if (place == 0 || place == runs.size() - 1) {
            return false;
        }
        Run ahead = runs.get(place - 1);
        Run run = runs.get(place);
        Run behind = runs.get(place + 1);
        return turned(ahead.direction, run.direction) == 1 && turned(run.direction, behind.direction) == 1
                && turned(ahead.direction, behind.direction) == 2 && run.length <= settings.get(1);
    }

    /** Puts the runs that are left into the list, and returns how many were dropped. */
    private int forgive(List<Run> runs, List<Run> left) {
        int dropped = 0;
        List<Run> rest = new ArrayList<>(runs);
        boolean again = true;
        while (again && rest.size() > 1) {
            again = false;
            for (int place = 0; place < rest.size() && !again; place++) {
                if (rest.get(place).length < settings.get(0) || cut(rest, place)) {
                    rest.remove(place);
                    dropped++;
                    again = true;
                    boolean inside = place > 0 && place < rest.size();
                    if (inside && rest.get(place - 1).direction == rest.get(place).direction) {
                        Run behind = rest.remove(place);
                        Run ahead = rest.get(place - 1);
                        rest.set(place - 1, new Run(ahead.direction, ahead.length + behind.length));
                    }
                }
            }
        }
        left.addAll(rest);
        return dropped;
    }

    private List<Integer> strokeRow() {
        return strokeRow(points);
    }

    private List<Integer> strokeRow(List<Point> path) {
        List<Run> left = new ArrayList<>();
        forgive(runsOf(path), left);
        return left.stream().map(Run::direction).toList();
    }

    private static int between(List<Integer> from, List<Integer> to, List<Integer> settings) {
        return between(from, to, settings, new HashMap<>());
    }

    private static int between(List<Integer> from, List<Integer> to, List<Integer> settings, Map<Integer, Integer> known) {
        if (from.isEmpty() || to.isEmpty()) {
            return (from.size() + to.size()) * settings.get(3);
        }
        int key = from.size() * 100 + to.size();
        Integer before = known.get(key);
        if (before != null) {
            return before;
        }
        List<Integer> fromRest = from.subList(1, from.size());
        List<Integer> toRest = to.subList(1, to.size());
        int replaced = settings.get(2) * turned(from.get(0), to.get(0)) + between(fromRest, toRest, settings, known);
        int leftOut = settings.get(3) + between(fromRest, to, settings, known);
        int putIn = settings.get(3) + between(from, toRest, settings, known);
        int least = Math.min(replaced, Math.min(leftOut, putIn));
        known.put(key, least);
        return least;
    }

    private int leastApart(List<Integer> costs) {
        int least = NONE;
        for (int i = 0; i < commands.size(); i++) {
            for (int j = i + 1; j < commands.size(); j++) {
                int apart = between(commands.get(i), commands.get(j), costs);
                least = least == NONE ? apart : Math.min(least, apart);
            }
        }
        return least;
    }

    private int nearest(List<Integer> stroke, int but) {
        int nearest = NONE;
        int least = Integer.MAX_VALUE;
        for (int command = 0; command < commands.size(); command++) {
            int apart = between(stroke, commands.get(command), settings);
            if (command != but && apart < least) {
                least = apart;
                nearest = command;
            }
        }
        return nearest;
    }

    private int readAs(List<Point> path) {
        if (runsOf(path).isEmpty()) {
            return NONE;
        }
        List<Integer> stroke = strokeRow(path);
        for (int command = 0; command < commands.size(); command++) {
            if (between(stroke, commands.get(command), settings) <= settings.get(4)) {
                return command;
            }
        }
        return NONE;
    }

    private void change(List<Point> nextPoints, List<List<Integer>> nextCommands, List<Integer> nextSettings) {
        saved.addLast(new Saved(points, commands, settings));
        if (saved.size() > 6) {
            saved.removeFirst();
        }
        points = List.copyOf(nextPoints);
        commands = List.copyOf(nextCommands);
        settings = List.copyOf(nextSettings);
    }

    private static <T> List<T> with(List<T> list, T more) {
        List<T> longer = new ArrayList<>(list);
        longer.add(more);
        return longer;
    }

    private static int atOrNone(List<Integer> list, int place) {
        return place < list.size() ? list.get(place) : NONE;
    }

    private static void argument(boolean isGood) {
        if (!isGood) {
            throw new IllegalArgumentException();
        }
    }

    private static void state(boolean isGood) {
        if (!isGood) {
            throw new IllegalStateException();
        }
    }

    private static void index(boolean isGood) {
        if (!isGood) {
            throw new IndexOutOfBoundsException();
        }
    }
}
