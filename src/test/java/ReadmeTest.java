import java.io.File;
import java.lang.reflect.InvocationTargetException;
import java.lang.reflect.Method;
import java.lang.reflect.Modifier;
import java.nio.file.Files;
import java.nio.file.Path;
import java.util.ArrayList;
import java.util.List;
import java.util.Set;
import java.util.TreeSet;
import java.util.regex.Matcher;
import java.util.regex.Pattern;

/** What README.md says of the class, its settings and its tests, compared with these themselves. */
public final class ReadmeTest {
    private static final String CONSTRUCTOR = "new LatticeGestures()";
    private static final Set<String> UNDOABLE = Set.of("point", "go", "back", "begin", "turn", "learn", "read", "forget",
            "set");
    private static final Pattern EXAMPLE = Pattern.compile("gestures\\.(\\w+)\\(([^)]*)\\);\\s*// (-?\\d+).*");
    private static final Pattern CALL = Pattern.compile("\\| `(\\w+)\\(([^)]*)\\)`( \\*)? \\|.*\\| ([AIS, ]*)\\|");
    private static final Pattern SETTING = Pattern.compile("\\| (\\d) \\| .* \\| (\\d+) to (\\d+) \\| (\\d+) \\|");
    private static final Pattern TEST = Pattern.compile("\\| (\\w+Test) \\| .+ \\|");

    private static final Due due = new Due("ReadmeTest");

    public static void main(String[] args) throws Exception {
        if (args.length != 1) {
            throw new IllegalArgumentException("the source file is to be named");
        }
        Path source = new File(args[0]).getCanonicalFile().toPath();
        Path root = source.getParent().getParent().getParent().getParent();
        String readme = Files.readString(root.resolve("README.md"));
        List<String> lines = readme.lines().toList();
        whatItSays(readme);
        calls(lines, Files.readString(source));
        example(lines);
        settings(lines);
        tests(lines, root.resolve("src/test/java"));
        due.end();
    }

    private static void whatItSays(String readme) {
        for (String said : new String[] {"What an object is for", CONSTRUCTOR, "at most 512 calls", "Its calls",
                "How its tests are run", ".ci/run", "src/main/java/LatticeGestures.java"}) {
            good("README.md says: " + said, readme.contains(said));
        }
    }

    // ---- the table of calls

    private static void calls(List<String> lines, String source) {
        Set<String> want = new TreeSet<>();
        for (Method method : LatticeGestures.class.getDeclaredMethods()) {
            if (Modifier.isPublic(method.getModifiers())) {
                want.add(method.getName() + "(" + parameters(source, method.getName()) + ")"
                        + (UNDOABLE.contains(method.getName()) ? " *" : "") + " throws " + thrown(method));
            }
        }
        Set<String> told = new TreeSet<>();
        for (String line : lines) {
            Matcher row = CALL.matcher(line);
            if (row.matches()) {
                String star = row.group(3) == null ? "" : row.group(3);
                told.add(row.group(1) + "(" + row.group(2) + ")" + star + " throws " + row.group(4).trim());
            }
        }
        sameNames("a call", told, want);
    }

    /** The names of the parameters, as the source writes them. */
    private static String parameters(String source, String method) {
        Matcher face = Pattern.compile("    public \\w+ " + method + "\\(([^)]*)\\)").matcher(source);
        return face.find() ? face.group(1).replaceAll("\\w+ (\\w+)", "$1") : "not found";
    }

    private static String thrown(Method method) {
        List<String> letters = new ArrayList<>();
        for (Class<?> type : method.getExceptionTypes()) {
            letters.add(type == Due.ARGUMENT ? "A" : type == Due.STATE ? "S" : type == Due.INDEX ? "I" : "?");
        }
        return String.join(", ", letters);
    }

    // ---- the example

    private static void example(List<String> lines) throws ReflectiveOperationException {
        LatticeGestures gestures = new LatticeGestures();
        int calls = 0;
        for (String line : lines) {
            Matcher call = EXAMPLE.matcher(line);
            if (call.matches()) {
                calls++;
                due.is("line '" + line + "'", answer(gestures, call.group(1), call.group(2)),
                        Long.parseLong(call.group(3)));
            } else {
                good("an answer in line '" + line + "'", !line.startsWith("gestures."));
            }
        }
        good("an example of at least 10 calls", calls >= 10);
    }

    private static long answer(LatticeGestures gestures, String name, String arguments)
            throws ReflectiveOperationException {
        List<Object> given = new ArrayList<>();
        List<Class<?>> types = new ArrayList<>();
        for (String argument : arguments.isEmpty() ? new String[0] : arguments.split(", ")) {
            boolean isSign = argument.startsWith("'");
            given.add(isSign ? (int) argument.charAt(1) : Integer.parseInt(argument));
            types.add(int.class);
        }
        Method method = LatticeGestures.class.getMethod(name, types.toArray(new Class<?>[0]));
        try {
            return ((Number) method.invoke(gestures, given.toArray())).longValue();
        } catch (InvocationTargetException thrown) {
            due.is(name + " threw " + thrown.getCause() + ": exceptions", 1, 0);
            return Long.MIN_VALUE;
        }
    }

    // ---- the table of settings

    private static void settings(List<String> lines) {
        int told = 0;
        for (String line : lines) {
            Matcher row = SETTING.matcher(line);
            if (row.matches()) {
                int setting = Integer.parseInt(row.group(1));
                due.is("place of setting " + setting, setting, told);
                told++;
                range(setting, Integer.parseInt(row.group(2)), Integer.parseInt(row.group(3)));
                due.is("setting " + setting, new LatticeGestures().setting(setting), Integer.parseInt(row.group(4)));
            }
        }
        due.is("settings in README.md", told, 5);
    }

    private static void range(int setting, int least, int greatest) {
        LatticeGestures gestures = new LatticeGestures();
        gestures.set(setting, least);
        due.is("setting " + setting + " of " + greatest + ", after " + least, gestures.set(setting, greatest), least);
        for (int value : new int[] {least - 1, greatest + 1}) {
            due.refused(gestures, "set " + setting + ", " + value, Due.ARGUMENT, () -> gestures.set(setting, value));
        }
    }

    // ---- the table of tests

    private static void tests(List<String> lines, Path folder) throws Exception {
        Set<String> want = new TreeSet<>();
        for (String name : folder.toFile().list()) {
            if (name.endsWith("Test.java")) {
                want.add(name.substring(0, name.length() - ".java".length()));
            }
        }
        Set<String> told = new TreeSet<>();
        for (String line : lines) {
            Matcher row = TEST.matcher(line);
            if (row.matches()) {
                told.add(row.group(1));
            }
        }
        sameNames("a test", told, want);
    }

    private static void sameNames(String what, Set<String> told, Set<String> want) {
        for (String name : want) {
            good(what + " that README.md does not tell, or not like this: " + name, told.contains(name));
        }
        for (String name : told) {
            good(what + " that only README.md knows: " + name, want.contains(name));
        }
    }

    private static void good(String what, boolean isGood) {
        due.is(what, isGood ? 1 : 0, 1);
    }
}
