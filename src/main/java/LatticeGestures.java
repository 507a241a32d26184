/**
 * Gestures on a lattice that are read as commands.
 *
 * <p>All rows are made once, in the constructor, and used again by every call. What can be seen of
 * the path (its runs, its stroke, its distances from the commands) is worked out anew after each
 * change, so that a look only tells it.
 */
public final class LatticeGestures {
    public static final int NONE = -1;

    private static final int GREATEST_COORDINATE = 31;
    private static final int DIRECTIONS = 8;
    private static final int MOST_POINTS = 40;
    private static final int MOST_COMMANDS = 10;
    private static final int LONGEST_STROKE = 8;
    private static final int LONGEST_BUFFER = 60;
    private static final int MOST_SAVED = 6;

    private static final int SETTINGS = 5;
    private static final int SHORTEST_RUN = 0;
    private static final int LONGEST_CORNER = 1;
    private static final int TURN_COST = 2;
    private static final int GAP_COST = 3;
    private static final int FORGIVEN = 4;

    private static final int[] FIRST_VALUE = {2, 2, 2, 3, 2};
    private static final int[] LEAST_VALUE = {1, 0, 1, 1, 0};
    private static final int[] GREATEST_VALUE = {9, 9, 9, 9, 20};

    private static final int[] STEP_X = {1, 1, 0, -1, -1, -1, 0, 1};
    private static final int[] STEP_Y = {0, 1, 1, 1, 0, -1, -1, -1};

    private final State now;
    private final History history;
    private final Row buffer;
    private final View view;
    private final Meter meter;

    // Room for what is only tried: nothing of it outlives the call that fills it.
    private final Path triedPath;
    private final View triedView;
    private final Row triedSettings;
    private final Row triedStroke;

    public LatticeGestures() {
        now = new State();
        history = new History();
        buffer = new Row(LONGEST_BUFFER);
        view = new View();
        meter = new Meter();
        triedPath = new Path();
        triedView = new View();
        triedSettings = new Row(SETTINGS);
        triedStroke = new Row(LONGEST_STROKE);
    }

    // ---- paths

    public int point(int x, int y) throws IllegalArgumentException, IllegalStateException {
        if (!isOnLattice(x, y)) {
            throw new IllegalArgumentException("a coordinate is not 0 to 31");
        }
        if (now.path.held() >= MOST_POINTS) {
            throw new IllegalStateException("there are 40 points");
        }
        history.keep(now);
        now.path.add(x, y);
        lookAgain();
        return now.path.held();
    }

    public int go(int direction, int many) throws IllegalArgumentException, IllegalStateException {
        if (!isDirection(direction) || many < 1 || many > GREATEST_COORDINATE) {
            throw new IllegalArgumentException("a direction is not 0 to 7, or many is not 1 to 31");
        }
        Path path = now.path;
        boolean isEmpty = path.held() == 0;
        int x = isEmpty ? 0 : path.x(path.held() - 1);
        int y = isEmpty ? 0 : path.y(path.held() - 1);
        int stepX = of(STEP_X, direction);
        int stepY = of(STEP_Y, direction);
        int steps = Math.min(many, Math.min(stepsWithin(x, stepX), stepsWithin(y, stepY)));
        if (path.held() + (isEmpty ? 1 : 0) + steps > MOST_POINTS) {
            throw new IllegalStateException("there would be more than 40 points");
        }
        history.keep(now);
        if (isEmpty) {
            path.add(x, y);
        }
        for (int step = 1; step <= steps; step++) {
            path.add(x + step * stepX, y + step * stepY);
        }
        lookAgain();
        return steps;
    }

    public int back(int many) throws IllegalArgumentException {
        if (many < 1 || many > now.path.held()) {
            throw new IllegalArgumentException("many is not 1 to the number of points");
        }
        history.keep(now);
        now.path.cut(now.path.held() - many);
        lookAgain();
        return now.path.held();
    }

    public int begin() {
        int before = now.path.held();
        history.keep(now);
        now.path.cut(0);
        lookAgain();
        return before;
    }

    public int turn(int eighths) throws IllegalArgumentException, IllegalStateException {
        if (eighths < 1 || eighths >= DIRECTIONS) {
            throw new IllegalArgumentException("eighths is not 1 to 7");
        }
        if (!canLayTurned(eighths)) {
            throw new IllegalStateException("the path cannot be turned like this");
        }
        history.keep(now);
        now.path.copy(triedPath);
        lookAgain();
        return now.path.held();
    }

    // ---- commands

    public int learn() throws IllegalStateException {
        int length = view.kept.held();
        if (now.commands.held() >= MOST_COMMANDS || length < 1 || length > LONGEST_STROKE) {
            throw new IllegalStateException("there are 10 commands, or the stroke has not 1 to 8 directions");
        }
        if (isTooNear(view.kept)) {
            throw new IllegalStateException("a command is too near");
        }
        return addCommand(view.kept);
    }

    public int read() throws IllegalArgumentException, IllegalStateException {
        if (buffer.held() == 0 || firstError() < buffer.held()) {
            throw new IllegalArgumentException("the buffer is not a complete stroke");
        }
        if (now.commands.held() >= MOST_COMMANDS) {
            throw new IllegalStateException("there are 10 commands");
        }
        triedStroke.clear();
        for (int place = 0; place < buffer.held(); place++) {
            triedStroke.add(buffer.at(place) - '0');
        }
        if (isTooNear(triedStroke)) {
            throw new IllegalStateException("a command is too near");
        }
        buffer.clear();
        return addCommand(triedStroke);
    }

    public int forget(int command) throws IndexOutOfBoundsException {
        if (!isCommand(command)) {
            throw new IndexOutOfBoundsException("there is no such command");
        }
        history.keep(now);
        now.commands.remove(command);
        lookAgain();
        return now.commands.held();
    }

    public int set(int setting, int value)
            throws IndexOutOfBoundsException, IllegalArgumentException, IllegalStateException {
        if (!isSetting(setting)) {
            throw new IndexOutOfBoundsException("there is no such setting");
        }
        if (value < of(LEAST_VALUE, setting) || value > of(GREATEST_VALUE, setting)) {
            throw new IllegalArgumentException("the value is out of range");
        }
        triedSettings.copy(now.settings);
        triedSettings.put(setting, value);
        int least = leastApart(triedSettings);
        if (least != NONE && least <= 2 * triedSettings.at(FORGIVEN)) {
            throw new IllegalStateException("two commands would be too near");
        }
        int before = now.settings.at(setting);
        history.keep(now);
        now.settings.put(setting, value);
        lookAgain();
        return before;
    }

    // ---- texts

    public int append(int code) throws IllegalArgumentException, IllegalStateException {
        if (code < 33 || code > 126) {
            throw new IllegalArgumentException("the code is not 33 to 126");
        }
        if (buffer.held() >= LONGEST_BUFFER) {
            throw new IllegalStateException("the buffer has 60 characters");
        }
        buffer.add(code);
        return buffer.held();
    }

    public int clearBuffer() {
        int before = buffer.held();
        buffer.clear();
        return before;
    }

    public int firstError() {
        for (int place = 0; place < buffer.held(); place++) {
            int code = buffer.at(place);
            boolean isDigit = code >= '0' && code <= '7';
            boolean isRepeated = place > 0 && buffer.at(place - 1) == code;
            if (place >= LONGEST_STROKE || !isDigit || isRepeated) {
                return place;
            }
        }
        return buffer.held();
    }

    public int undo() throws IllegalStateException {
        if (history.held() == 0) {
            throw new IllegalStateException("there is no saved state");
        }
        history.giveBack(now);
        lookAgain();
        return history.held();
    }

    // ---- looks; nothing is changed

    public int pointOf(int place, int what) throws IndexOutOfBoundsException, IllegalArgumentException {
        if (place < 0 || place >= now.path.held()) {
            throw new IndexOutOfBoundsException("there is no such point");
        }
        switch (what) {
            case 0:
                return now.path.x(place);
            case 1:
                return now.path.y(place);
            case 2:
                return now.path.directionTo(place);
            case 3:
                return now.path.lengthTo(place);
            default:
                throw new IllegalArgumentException("what is not 0 to 3");
        }
    }

    public int run(int run, int what) throws IllegalArgumentException {
        if (run < 0 || what < 0 || what > 3) {
            throw new IllegalArgumentException("run is below 0, or what is not 0 to 3");
        }
        if (run >= view.directions.held()) {
            return NONE;
        }
        switch (what) {
            case 0:
                return view.directions.at(run);
            case 1:
                return view.lengths.at(run);
            case 2:
                return view.lengths.at(run) < now.settings.at(SHORTEST_RUN) ? 1 : 0;
            default:
                return isCutCorner(view.directions, view.lengths, run, now.settings.at(LONGEST_CORNER)) ? 1 : 0;
        }
    }

    public int stroke(int place) throws IllegalArgumentException {
        if (place < 0) {
            throw new IllegalArgumentException("place is below 0");
        }
        return view.kept.at(place);
    }

    public int strokeOf(int command, int place) throws IndexOutOfBoundsException, IllegalArgumentException {
        if (!isCommand(command)) {
            throw new IndexOutOfBoundsException("there is no such command");
        }
        if (place < 0) {
            throw new IllegalArgumentException("place is below 0");
        }
        return now.commands.directions(command).at(place);
    }

    public int distance(int command, int other) throws IndexOutOfBoundsException {
        if (!isCommand(command) || (other != NONE && !isCommand(other))) {
            throw new IndexOutOfBoundsException("there is no such command");
        }
        if (other == NONE) {
            return view.distances.at(command);
        }
        meter.measure(now.commands.directions(other), now.commands.directions(command), now.settings);
        return meter.whole();
    }

    public int reading(int what) throws IllegalArgumentException {
        switch (what) {
            case 0:
                return view.readAs(now.settings);
            case 1:
                return view.nearestBut(NONE);
            case 2:
                return view.distances.at(view.nearestBut(NONE));
            case 3:
                return view.canBecome();
            case 4:
                return view.stillToCome();
            default:
                throw new IllegalArgumentException("what is not 0 to 4");
        }
    }

    public int count(int what) throws IllegalArgumentException {
        switch (what) {
            case 0:
                return now.path.held();
            case 1:
                return view.directions.held();
            case 2:
                return view.kept.held();
            case 3:
                return view.lengths.sum();
            case 4:
                return view.dropped;
            case 5:
                return now.commands.held();
            case 6:
                return now.commands.allDirections();
            case 7:
                return leastApart(now.settings);
            case 8:
                return history.held();
            default:
                throw new IllegalArgumentException("what is not 0 to 8");
        }
    }

    public int setting(int setting) throws IndexOutOfBoundsException {
        if (!isSetting(setting)) {
            throw new IndexOutOfBoundsException("there is no such setting");
        }
        return now.settings.at(setting);
    }

    // ---- what would be; nothing is changed

    public int ifPoint(int x, int y) throws IllegalArgumentException {
        if (!isOnLattice(x, y)) {
            throw new IllegalArgumentException("a coordinate is not 0 to 31");
        }
        triedPath.copy(now.path);
        triedPath.add(x, y);
        triedView.look(triedPath, now);
        return triedView.readAs(now.settings);
    }

    public int against() {
        int nearest = view.nearestBut(NONE);
        if (nearest == NONE || view.distances.at(nearest) > 2 * now.settings.at(FORGIVEN)) {
            return NONE;
        }
        return nearest;
    }

    public int mostForgiven() {
        int least = leastApart(now.settings);
        for (int value = of(GREATEST_VALUE, FORGIVEN); value >= 0; value--) {
            if (least == NONE || least > 2 * value) {
                return value;
            }
        }
        return NONE;
    }

    public int straightness() {
        int total = view.lengths.sum();
        if (total <= 0) {
            return floatBits(1.0f);
        }
        return floatBits((float) now.path.reach() / (float) total);
    }

    public double doubt() {
        int nearest = view.nearestBut(NONE);
        int next = view.nearestBut(nearest);
        if (nearest == NONE || next == NONE) {
            return 0.0;
        }
        int divisor = view.distances.at(next);
        if (divisor <= 0) {
            return 0.0;
        }
        return (double) view.distances.at(nearest) / (double) divisor;
    }

    public long digest() {
        long hash = 2647;
        for (int what = 0; what <= 8; what++) {
            hash = 31 * hash + count(what);
        }
        for (int setting = 0; setting < SETTINGS; setting++) {
            hash = 31 * hash + setting(setting);
        }
        hash = withPath(hash);
        hash = withCommands(hash);
        for (int what = 0; what <= 4; what++) {
            hash = 31 * hash + reading(what);
        }
        hash = 31 * hash + ifPoint(31, 0);
        hash = 31 * hash + against();
        hash = 31 * hash + mostForgiven();
        hash = 31 * hash + straightness();
        hash = 31 * hash + doubleBits(doubt());
        hash = 31 * hash + buffer.held();
        for (int place = 0; place < buffer.held(); place++) {
            hash = 31 * hash + buffer.at(place);
        }
        return hash;
    }

    // ---- what the calls share

    private void lookAgain() {
        view.look(now.path, now);
    }

    private boolean isCommand(int command) {
        return command >= 0 && command < now.commands.held();
    }

    private static boolean isSetting(int setting) {
        return setting >= 0 && setting < SETTINGS;
    }

    private static boolean isDirection(int direction) {
        return direction >= 0 && direction < DIRECTIONS;
    }

    private static boolean isOnLattice(int x, int y) {
        return x >= 0 && x <= GREATEST_COORDINATE && y >= 0 && y <= GREATEST_COORDINATE;
    }

    private static int of(int[] table, int index) {
        return index >= 0 && index < table.length ? table[index] : 0;
    }

    /** How many steps stay on the lattice along one axis. */
    private static int stepsWithin(int coordinate, int step) {
        if (step == 0) {
            return GREATEST_COORDINATE;
        }
        return step > 0 ? GREATEST_COORDINATE - coordinate : coordinate;
    }

    /** Lays the turned path into triedPath, so that a path that cannot be turned stays as it is. */
    private boolean canLayTurned(int eighths) {
        Path path = now.path;
        int x = path.x(0);
        int y = path.y(0);
        triedPath.cut(0);
        for (int place = 0; place < path.held(); place++) {
            if (!path.isEvenTo(place)) {
                return false;
            }
            int direction = path.directionTo(place);
            if (direction != NONE) {
                int turned = (direction + eighths) % DIRECTIONS;
                x += of(STEP_X, turned) * path.lengthTo(place);
                y += of(STEP_Y, turned) * path.lengthTo(place);
            }
            if (!isOnLattice(x, y)) {
                return false;
            }
            triedPath.add(x, y);
        }
        return true;
    }

    private boolean isTooNear(Row stroke) {
        for (int command = 0; command < now.commands.held(); command++) {
            meter.measure(stroke, now.commands.directions(command), now.settings);
            if (meter.whole() <= 2 * now.settings.at(FORGIVEN)) {
                return true;
            }
        }
        return false;
    }

    private int addCommand(Row stroke) {
        history.keep(now);
        now.commands.add(stroke);
        lookAgain();
        return now.commands.held() - 1;
    }

    /** The least distance of two commands under these settings, NONE with fewer than two. */
    private int leastApart(Row settings) {
        int least = NONE;
        for (int command = 1; command < now.commands.held(); command++) {
            for (int other = 0; other < command; other++) {
                meter.measure(now.commands.directions(other), now.commands.directions(command), settings);
                if (least == NONE || meter.whole() < least) {
                    least = meter.whole();
                }
            }
        }
        return least;
    }

    private long withPath(long before) {
        long hash = before;
        for (int place = 0; place < now.path.held(); place++) {
            for (int what = 0; what <= 3; what++) {
                hash = 31 * hash + pointOf(place, what);
            }
        }
        for (int place = 0; place < view.directions.held(); place++) {
            for (int what = 0; what <= 3; what++) {
                hash = 31 * hash + run(place, what);
            }
        }
        for (int place = 0; place < view.kept.held(); place++) {
            hash = 31 * hash + view.kept.at(place);
        }
        return hash;
    }

    private long withCommands(long before) {
        long hash = before;
        for (int command = 0; command < now.commands.held(); command++) {
            Row directions = now.commands.directions(command);
            for (int place = 0; place < directions.held(); place++) {
                hash = 31 * hash + directions.at(place);
            }
            hash = 31 * hash + distance(command, NONE);
            hash = 31 * hash + distance(command, 0);
        }
        return hash;
    }

    /**
     * The bits of a share of 0 to 1, by arithmetic, because LANGUAGE.md leaves out
     * Float.floatToIntBits. No share is so small that its bits are of another form.
     */
    private static int floatBits(float share) {
        if (!(share > 0.0f)) {
            return 0;
        }
        int exponent = 127;
        float rest = share;
        for (int halving = 0; halving < 126 && rest < 1.0f; halving++) {
            rest = rest * 2.0f;
            exponent--;
        }
        return (exponent << 23) + (int) ((rest - 1.0f) * 8388608.0f);
    }

    /** Like floatBits, for Double.doubleToLongBits. */
    private static long doubleBits(double share) {
        if (!(share > 0.0)) {
            return 0;
        }
        long exponent = 1023;
        double rest = share;
        for (int halving = 0; halving < 1022 && rest < 1.0; halving++) {
            rest = rest * 2.0;
            exponent--;
        }
        return (exponent << 52) + (long) ((rest - 1.0) * 4503599627370496.0);
    }

    /** By how many eighths of a turn two directions differ, 0 to 4. */
    private static int eighthsBetween(int direction, int other) {
        int ahead = (direction - other) & (DIRECTIONS - 1);
        return ahead <= DIRECTIONS / 2 ? ahead : DIRECTIONS - ahead;
    }

    private static boolean isCutCorner(Row directions, Row lengths, int place, int longest) {
        if (place < 1 || place + 1 >= directions.held() || lengths.at(place) > longest) {
            return false;
        }
        int ahead = directions.at(place - 1);
        int here = directions.at(place);
        int behind = directions.at(place + 1);
        return eighthsBetween(ahead, here) == 1
                && eighthsBetween(here, behind) == 1
                && eighthsBetween(ahead, behind) == 2;
    }

    /** A row of numbers with a fixed room: no index and no size can lead out of it. */
    private static final class Row {
        private final int[] cells;
        private int held;

        Row(int room) {
            cells = new int[room > 0 ? room : 0];
            held = 0;
        }

        int held() {
            return held;
        }

        /** NONE outside the row. */
        int at(int place) {
            return place >= 0 && place < held && place < cells.length ? cells[place] : NONE;
        }

        void put(int place, int value) {
            if (place >= 0 && place < held && place < cells.length) {
                cells[place] = value;
            }
        }

        void add(int value) {
            if (held >= 0 && held < cells.length) {
                cells[held] = value;
                held++;
            }
        }

        void cut(int length) {
            if (length >= 0 && length < held) {
                held = length;
            }
        }

        void clear() {
            held = 0;
        }

        void remove(int place) {
            if (place < 0 || place >= held) {
                return;
            }
            for (int next = place + 1; next < held; next++) {
                put(next - 1, at(next));
            }
            held--;
        }

        void copy(Row other) {
            held = 0;
            for (int place = 0; place < other.held; place++) {
                add(other.at(place));
            }
        }

        int sum() {
            int sum = 0;
            for (int place = 0; place < held; place++) {
                sum += at(place);
            }
            return sum;
        }
    }

    /** A row of points, with room for the one more that ifPoint tries. */
    private static final class Path {
        private final Row xs;
        private final Row ys;

        Path() {
            xs = new Row(MOST_POINTS + 1);
            ys = new Row(MOST_POINTS + 1);
        }

        int held() {
            return xs.held();
        }

        int x(int place) {
            return xs.at(place);
        }

        int y(int place) {
            return ys.at(place);
        }

        void add(int x, int y) {
            xs.add(x);
            ys.add(y);
        }

        void cut(int length) {
            xs.cut(length);
            ys.cut(length);
        }

        void copy(Path other) {
            xs.copy(other.xs);
            ys.copy(other.ys);
        }

        /** NONE for the first point, or if the point is the same as the one ahead of it. */
        int directionTo(int place) {
            int signX = Integer.signum(difference(xs, place));
            int signY = Integer.signum(difference(ys, place));
            for (int direction = 0; direction < DIRECTIONS; direction++) {
                if (of(STEP_X, direction) == signX && of(STEP_Y, direction) == signY) {
                    return direction;
                }
            }
            return NONE;
        }

        int lengthTo(int place) {
            return Math.max(Math.abs(difference(xs, place)), Math.abs(difference(ys, place)));
        }

        /** Whether the step to the point lies on one of the eight rays, so that it can be turned. */
        boolean isEvenTo(int place) {
            int x = Math.abs(difference(xs, place));
            int y = Math.abs(difference(ys, place));
            return x == 0 || y == 0 || x == y;
        }

        /** How far the last point is from the first one. */
        int reach() {
            int last = held() - 1;
            return Math.max(Math.abs(xs.at(last) - xs.at(0)), Math.abs(ys.at(last) - ys.at(0)));
        }

        private static int difference(Row coordinates, int place) {
            if (place < 1 || place >= coordinates.held()) {
                return 0;
            }
            return coordinates.at(place) - coordinates.at(place - 1);
        }
    }

    private static final class Commands {
        private final Row[] strokes;
        private final Row nothing;
        private int held;

        Commands() {
            strokes = new Row[MOST_COMMANDS];
            for (int command = 0; command < strokes.length; command++) {
                strokes[command] = new Row(LONGEST_STROKE);
            }
            nothing = new Row(0);
            held = 0;
        }

        int held() {
            return held;
        }

        Row directions(int command) {
            if (command < 0 || command >= strokes.length) {
                return nothing;
            }
            Row found = strokes[command];
            return found != null ? found : nothing;
        }

        int allDirections() {
            int sum = 0;
            for (int command = 0; command < held; command++) {
                sum += directions(command).held();
            }
            return sum;
        }

        void add(Row stroke) {
            if (held < strokes.length) {
                directions(held).copy(stroke);
                held++;
            }
        }

        void remove(int command) {
            if (command < 0 || command >= held) {
                return;
            }
            for (int next = command + 1; next < held; next++) {
                directions(next - 1).copy(directions(next));
            }
            held--;
        }

        void copy(Commands other) {
            for (int command = 0; command < other.held; command++) {
                directions(command).copy(other.directions(command));
            }
            held = other.held;
        }
    }

    /** What undo brings back: all but the buffer and the saved states. */
    private static final class State {
        private final Path path;
        private final Commands commands;
        private final Row settings;

        State() {
            path = new Path();
            commands = new Commands();
            settings = new Row(SETTINGS);
            for (int setting = 0; setting < SETTINGS; setting++) {
                settings.add(of(FIRST_VALUE, setting));
            }
        }

        void copy(State other) {
            path.copy(other.path);
            commands.copy(other.commands);
            settings.copy(other.settings);
        }
    }

    /** The saved states in a ring, so that dropping the oldest one moves none of the others. */
    private static final class History {
        private final State[] ring;
        private int oldest;
        private int held;

        History() {
            ring = new State[MOST_SAVED];
            for (int slot = 0; slot < ring.length; slot++) {
                ring[slot] = new State();
            }
            oldest = 0;
            held = 0;
        }

        int held() {
            return held;
        }

        void keep(State state) {
            if (held >= MOST_SAVED) {
                oldest = (oldest + 1) % MOST_SAVED;
                held--;
            }
            State free = saved(held);
            if (free != null) {
                free.copy(state);
                held++;
            }
        }

        void giveBack(State state) {
            State latest = saved(held - 1);
            if (held > 0 && latest != null) {
                state.copy(latest);
                held--;
            }
        }

        private State saved(int place) {
            int slot = (oldest + place) % MOST_SAVED;
            return slot >= 0 && slot < ring.length ? ring[slot] : null;
        }
    }

    /** Measures a stroke against a command's stroke, and against all beginnings of it at once. */
    private static final class Meter {
        // One cost for each beginning, that of no directions first.
        private final Row costs;

        Meter() {
            costs = new Row(LONGEST_STROKE + 1);
        }

        void measure(Row stroke, Row command, Row settings) {
            int gap = settings.at(GAP_COST);
            costs.clear();
            for (int length = 0; length <= command.held(); length++) {
                costs.add(length * gap);
            }
            for (int place = 0; place < stroke.held(); place++) {
                takeIn(stroke.at(place), command, gap, settings.at(TURN_COST));
            }
        }

        private void takeIn(int direction, Row command, int gap, int turn) {
            int shorter = costs.at(0);
            costs.put(0, shorter + gap);
            for (int length = 1; length <= command.held(); length++) {
                int replaced = shorter + turn * eighthsBetween(direction, command.at(length - 1));
                shorter = costs.at(length);
                int leftOut = shorter + gap;
                int putIn = costs.at(length - 1) + gap;
                costs.put(length, Math.min(replaced, Math.min(leftOut, putIn)));
            }
        }

        /** The distance from the whole stroke of the command. */
        int whole() {
            return costs.at(costs.held() - 1);
        }

        /** The least number of directions behind a beginning that is near enough, or NONE. */
        int leastRest(int forgiven) {
            for (int rest = 0; rest < costs.held(); rest++) {
                if (costs.at(costs.held() - 1 - rest) <= forgiven) {
                    return rest;
                }
            }
            return NONE;
        }
    }

    /** What can be seen of a path among commands. */
    private static final class View {
        private final Meter meter;
        private final Row directions;
        private final Row lengths;
        private final Row kept;
        private final Row keptLengths;
        private final Row distances;
        // For each command what Meter.leastRest tells: NONE if the path cannot become it.
        private final Row rests;
        private int dropped;

        View() {
            meter = new Meter();
            directions = new Row(MOST_POINTS);
            lengths = new Row(MOST_POINTS);
            kept = new Row(MOST_POINTS);
            keptLengths = new Row(MOST_POINTS);
            distances = new Row(MOST_COMMANDS);
            rests = new Row(MOST_COMMANDS);
            dropped = 0;
        }

        void look(Path path, State state) {
            findRuns(path);
            forgive(state.settings);
            distances.clear();
            rests.clear();
            for (int command = 0; command < state.commands.held(); command++) {
                meter.measure(kept, state.commands.directions(command), state.settings);
                distances.add(meter.whole());
                rests.add(meter.leastRest(state.settings.at(FORGIVEN)));
            }
        }

        private void findRuns(Path path) {
            directions.clear();
            lengths.clear();
            for (int place = 1; place < path.held(); place++) {
                int direction = path.directionTo(place);
                int last = directions.held() - 1;
                if (direction != NONE && direction == directions.at(last)) {
                    lengths.put(last, lengths.at(last) + path.lengthTo(place));
                } else if (direction != NONE) {
                    directions.add(direction);
                    lengths.add(path.lengthTo(place));
                }
            }
        }

        private void forgive(Row settings) {
            kept.copy(directions);
            keptLengths.copy(lengths);
            dropped = 0;
            // Each round drops a run, and there are at most as many runs as points.
            for (int round = 0; round < MOST_POINTS && kept.held() > 1; round++) {
                int place = firstToDrop(settings);
                if (place == NONE) {
                    return;
                }
                drop(place);
            }
        }

        private int firstToDrop(Row settings) {
            for (int place = 0; place < kept.held(); place++) {
                if (keptLengths.at(place) < settings.at(SHORTEST_RUN)
                        || isCutCorner(kept, keptLengths, place, settings.at(LONGEST_CORNER))) {
                    return place;
                }
            }
            return NONE;
        }

        private void drop(int place) {
            kept.remove(place);
            keptLengths.remove(place);
            dropped++;
            if (place >= 1 && place < kept.held() && kept.at(place - 1) == kept.at(place)) {
                keptLengths.put(place - 1, keptLengths.at(place - 1) + keptLengths.at(place));
                kept.remove(place);
                keptLengths.remove(place);
            }
        }

        int readAs(Row settings) {
            int nearest = nearestBut(NONE);
            boolean hasRuns = directions.held() > 0;
            return hasRuns && distances.at(nearest) <= settings.at(FORGIVEN) ? nearest : NONE;
        }

        /** The nearest command that is not this one, of several the lowest one. */
        int nearestBut(int command) {
            int nearest = NONE;
            for (int other = 0; other < distances.held(); other++) {
                boolean isNearer = nearest == NONE || distances.at(other) < distances.at(nearest);
                if (other != command && isNearer) {
                    nearest = other;
                }
            }
            return nearest;
        }

        int canBecome() {
            int mask = 0;
            for (int command = 0; command < rests.held(); command++) {
                if (rests.at(command) != NONE) {
                    mask |= 1 << command;
                }
            }
            return mask;
        }

        int stillToCome() {
            int found = 0;
            int rest = NONE;
            for (int command = 0; command < rests.held(); command++) {
                if (rests.at(command) != NONE) {
                    found++;
                    rest = rests.at(command);
                }
            }
            return found == 1 ? rest : NONE;
        }
    }
}
