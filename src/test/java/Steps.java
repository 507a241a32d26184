/** Calls that tests make in rows. */
final class Steps {
    private Steps() {
    }

    /** Puts the points (x, y, x, y, ..) behind the path. */
    static LatticeGestures path(LatticeGestures gestures, int... coordinates) {
        for (int i = 0; i + 1 < coordinates.length; i += 2) {
            gestures.point(coordinates[i], coordinates[i + 1]);
        }
        return gestures;
    }

    static LatticeGestures withPath(int... coordinates) {
        return path(new LatticeGestures(), coordinates);
    }

    static LatticeGestures type(LatticeGestures gestures, String text) {
        for (int i = 0; i < text.length(); i++) {
            gestures.append(text.charAt(i));
        }
        return gestures;
    }

    /** Reads these strokes as commands. */
    static LatticeGestures commands(LatticeGestures gestures, String... strokes) {
        for (String stroke : strokes) {
            type(gestures, stroke).read();
        }
        return gestures;
    }

    static LatticeGestures withCommands(String... strokes) {
        return commands(new LatticeGestures(), strokes);
    }

    static int[] points(LatticeGestures gestures) {
        int[] all = new int[2 * gestures.count(0)];
        for (int i = 0; i < gestures.count(0); i++) {
            all[2 * i] = gestures.pointOf(i, 0);
            all[2 * i + 1] = gestures.pointOf(i, 1);
        }
        return all;
    }

    static int[] stroke(LatticeGestures gestures) {
        int[] all = new int[gestures.count(2)];
        for (int i = 0; i < all.length; i++) {
            all[i] = gestures.stroke(i);
        }
        return all;
    }

    static int[] strokeOf(LatticeGestures gestures, int command) {
        int length = 0;
        while (gestures.strokeOf(command, length) != LatticeGestures.NONE) {
            length++;
        }
        int[] all = new int[length];
        for (int i = 0; i < length; i++) {
            all[i] = gestures.strokeOf(command, i);
        }
        return all;
    }

    /** What run tells of all runs for one what. */
    static int[] runs(LatticeGestures gestures, int what) {
        int[] all = new int[gestures.count(1)];
        for (int i = 0; i < all.length; i++) {
            all[i] = gestures.run(i, what);
        }
        return all;
    }

    static int[] readings(LatticeGestures gestures) {
        int[] all = new int[5];
        for (int what = 0; what < all.length; what++) {
            all[what] = gestures.reading(what);
        }
        return all;
    }

    static int[] counts(LatticeGestures gestures) {
        int[] all = new int[9];
        for (int what = 0; what < all.length; what++) {
            all[what] = gestures.count(what);
        }
        return all;
    }

    static int[] settings(LatticeGestures gestures) {
        int[] all = new int[5];
        for (int setting = 0; setting < all.length; setting++) {
            all[setting] = gestures.setting(setting);
        }
        return all;
    }
}
