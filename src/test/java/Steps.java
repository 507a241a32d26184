/** Calls that tests make in rows. */
final class Steps {
    private static final int[] X = {1, 1, 0, -1, -1, -1, 0, 1};
    private static final int[] Y = {0, 1, 1, 1, 0, -1, -1, -1};

    private Steps() {
    }

    /** Puts the points (x, y, x, y, ..) behind the path. */
    static LatticeGestures path(LatticeGestures gestures, int... coordinates) {
        for (int i = 0; i + 1 < coordinates.length; i += 2) {
            gestures.point(coordinates[i], coordinates[i + 1]);
        }
        return gestures;
    }

    static LatticeGestures withPath(int... coordinates) {
        return path(new LatticeGestures(), coordinates);
    }

    static LatticeGestures type(LatticeGestures gestures, String text) {
        for (int i = 0; i < text.length(); i++) {
            gestures.append(text.charAt(i));
        }
        return gestures;
    }

    /** Reads these strokes as commands. */
    static LatticeGestures commands(LatticeGestures gestures, String... strokes) {
        for (String stroke : strokes) {
            type(gestures, stroke).read();
        }
        return gestures;
    }

    static LatticeGestures withCommands(String... strokes) {
        return commands(new LatticeGestures(), strokes);
    }

    /** Steps of the length 2 in each direction (a digit of the text), from 15, 15 without points. */
    static LatticeGestures draw(LatticeGestures gestures, String directions) {
        if (gestures.count(0) == 0) {
            gestures.point(15, 15);
        }
        int last = gestures.count(0) - 1;
        int x = gestures.pointOf(last, 0);
        int y = gestures.pointOf(last, 1);
        for (int i = 0; i < directions.length(); i++) {
            int direction = directions.charAt(i) - '0';
            x += 2 * X[direction];
            y += 2 * Y[direction];
            gestures.point(x, y);
        }
        return gestures;
    }

    static LatticeGestures drawn(String directions) {
        return draw(new LatticeGestures(), directions);
    }

    /** 40 points, from 3, 3 around a square of the side 2, so that there are 39 runs. */
    static LatticeGestures fullPath() {
        LatticeGestures gestures = new LatticeGestures();
        for (int point = 0; point < 40; point++) {
            int corner = point % 4;
            gestures.point(corner == 1 || corner == 2 ? 5 : 3, corner >= 2 ? 5 : 3);
        }
        return gestures;
    }

    /** Ten commands that are far enough from one another with nothing forgiven. */
    static LatticeGestures tenCommands() {
        LatticeGestures gestures = new LatticeGestures();
        gestures.set(4, 0);
        return commands(gestures, "0", "1", "2", "3", "4", "5", "6", "7", "02", "04");
    }

    /** A buffer of 60 characters. */
    static LatticeGestures fullBuffer() {
        return type(new LatticeGestures(), "0123456".repeat(9).substring(0, 60));
    }

    /** 6 saved states, and 7 points in a row. */
    static LatticeGestures sixSaved() {
        return withPath(1, 1, 2, 1, 3, 1, 4, 1, 5, 1, 6, 1, 7, 1);
    }

    static int[] points(LatticeGestures gestures) {
        int[] all = new int[2 * gestures.count(0)];
        for (int i = 0; i < gestures.count(0); i++) {
            all[2 * i] = gestures.pointOf(i, 0);
            all[2 * i + 1] = gestures.pointOf(i, 1);
        }
        return all;
    }

    static int[] stroke(LatticeGestures gestures) {
        int[] all = new int[gestures.count(2)];
        for (int i = 0; i < all.length; i++) {
            all[i] = gestures.stroke(i);
        }
        return all;
    }

    static int[] strokeOf(LatticeGestures gestures, int command) {
        int length = 0;
        while (gestures.strokeOf(command, length) != LatticeGestures.NONE) {
            length++;
        }
        int[] all = new int[length];
        for (int i = 0; i < length; i++) {
            all[i] = gestures.strokeOf(command, i);
        }
        return all;
    }

    /** What run tells of all runs for one what. */
    static int[] runs(LatticeGestures gestures, int what) {
        int[] all = new int[gestures.count(1)];
        for (int i = 0; i < all.length; i++) {
            all[i] = gestures.run(i, what);
        }
        return all;
    }

    static int[] readings(LatticeGestures gestures) {
        int[] all = new int[5];
        for (int what = 0; what < all.length; what++) {
            all[what] = gestures.reading(what);
        }
        return all;
    }

    static int[] counts(LatticeGestures gestures) {
        int[] all = new int[9];
        for (int what = 0; what < all.length; what++) {
            all[what] = gestures.count(what);
        }
        return all;
    }

    static int[] settings(LatticeGestures gestures) {
        int[] all = new int[5];
        for (int setting = 0; setting < all.length; setting++) {
            all[setting] = gestures.setting(setting);
        }
        return all;
    }
}
