import java.io.ByteArrayOutputStream;
import java.io.IOException;
import java.io.PrintStream;
import java.lang.reflect.InvocationTargetException;
import java.lang.reflect.Method;
import java.lang.reflect.Modifier;
import java.net.URL;
import java.net.URLClassLoader;
import java.nio.charset.StandardCharsets;
import java.nio.file.Files;
import java.nio.file.Path;
import java.util.ArrayList;
import java.util.Arrays;
import java.util.HashMap;
import java.util.List;
import java.util.Map;
import java.util.Set;
import java.util.TreeSet;
import java.util.regex.Matcher;
import java.util.regex.Pattern;
import java.util.stream.Stream;
import javax.tools.ToolProvider;

/** What README.md says of the class: its programs, its tables, its list of tests. Run where the project's root is. */
public final class ReadmeTest {
    private static final int HIGHEST = Integer.MAX_VALUE;
    private static int wrong = 0;

    private static void holds(boolean held, String what) {
        if (held) return;
        wrong++;
        System.out.println("README.md: not so: " + what);
    }

    public static void main(String[] args) throws Exception {
        String page = Files.readString(Path.of("README.md"), StandardCharsets.UTF_8);
        programs(page);
        calls(page);
        kindsOfGoers(page);
        kindsOfWindows(page);
        tests(page);
        System.out.println(wrong == 0 ? "README.md tells what is so" : wrong + " things are not as README.md tells");
        if (wrong != 0) System.exit(1);
    }

    // ---- programs and examples

    private static void programs(String page) throws Exception {
        Path dir = Files.createTempDirectory("readme");
        Set<String> called = new TreeSet<>();
        int whole = 0;
        int examples = 0;
        Matcher block = Pattern.compile("(?ms)^```(\\w+)\n(.*?)^```$").matcher(page);
        while (block.find()) {
            if (!block.group(1).equals("java")) continue;
            String code = block.group(2);
            Matcher name = Pattern.compile("public final class (\\w+)").matcher(code);
            if (name.find()) {
                whole++;
                String told = block.find() && block.group(1).equals("text") ? block.group(2) : "";
                holds(output(dir, name.group(1), code).equals(told), "what " + name.group(1) + " prints");
            } else {
                examples++;
                String answers = output(dir, "Example" + examples, example("Example" + examples, code, called));
                holds(answers.isEmpty(), answers.strip());
            }
        }
        holds(whole == 1 && examples > 0, "there are a program and examples");
        for (Method m : face()) holds(called.contains(m.getName()), "there is an example of " + m.getName());
        try (Stream<Path> files = Files.list(dir)) {
            for (Path p : files.toList()) Files.delete(p);
        }
        Files.delete(dir);
    }

    /** A program that prints what is not as the example's lines tell. */
    private static String example(String name, String code, Set<String> called) {
        StringBuilder all = new StringBuilder("public final class " + name + " {\n"
            + "static void due(String call, long got, long want) {\n"
            + "if (got != want) System.out.println(call + \" answered \" + got + \", told is \" + want);\n}\n"
            + "public static void main(String[] args) {\n");
        for (String line : code.split("\n")) {
            Matcher call = Pattern.compile("(x\\.(\\w+)\\([^;]*\\)); +// (-?\\d+): .*").matcher(line);
            if (call.matches()) {
                called.add(call.group(2));
                all.append("due(\"" + call.group(1) + "\", " + call.group(1) + ", " + call.group(3) + "L);\n");
            } else {
                holds(line.matches("IronStairs x = new IronStairs\\(\\);|for \\(char c : .*"), "'" + line + "' tells an answer");
                Matcher other = Pattern.compile("x\\.(\\w+)\\(").matcher(line);
                if (other.find()) called.add(other.group(1));
                all.append(line).append('\n');
            }
        }
        return all.append("}\n}\n").toString();
    }

    private static String output(Path dir, String name, String code) throws Exception {
        Path file = dir.resolve(name + ".java");
        Files.writeString(file, code);
        int failed = ToolProvider.getSystemJavaCompiler().run(null, null, null, "-cp", System.getProperty("java.class.path"),
            "-d", dir.toString(), file.toString());
        if (failed != 0) return name + " does not compile";
        ByteArrayOutputStream bytes = new ByteArrayOutputStream();
        PrintStream console = System.out;
        try (URLClassLoader loader = new URLClassLoader(new URL[] {dir.toUri().toURL()})) {
            System.setOut(new PrintStream(bytes, true));
            loader.loadClass(name).getMethod("main", String[].class).invoke(null, (Object) new String[0]);
        } finally {
            System.setOut(console);
        }
        return bytes.toString().replace("\r\n", "\n");
    }

    // ---- the tables of calls

    private static List<Method> face() {
        List<Method> all = new ArrayList<>();
        for (Method m : IronStairs.class.getDeclaredMethods()) {
            if (Modifier.isPublic(m.getModifiers())) all.add(m);
        }
        return all;
    }

    private static void calls(String page) throws Exception {
        Map<String, Method> untold = new HashMap<>();
        for (Method m : face()) untold.put(m.getReturnType() + " " + m.getName() + " " + m.getParameterCount(), m);
        Matcher row = Pattern.compile("(?m)^\\| `(int|long) (\\w+)\\((.*?)\\)` \\| (.*?) ?\\| (.*) \\| (.*?) ?\\|$").matcher(page);
        while (row.find()) {
            String[] names = row.group(3).isEmpty() ? new String[0] : row.group(3).replace("int ", "").split(", ");
            Method m = untold.remove(row.group(1) + " " + row.group(2) + " " + names.length);
            holds(m != null, "the call " + row.group());
            if (m == null) continue;
            takes(m, names, row.group(4), row.group(6));
            refuses(m, row.group(6));
        }
        holds(untold.isEmpty(), "each call is told: " + untold.keySet());
        String constants = "`NONE` \\(-1\\).*`BAD` \\(-2\\).*`NO` \\(-3\\).*`FULL` \\(-4\\)";
        holds(Pattern.compile(constants, Pattern.DOTALL).matcher(page).find(), "the constants");
        holds(IronStairs.NONE == -1 && IronStairs.BAD == -2 && IronStairs.NO == -3 && IronStairs.FULL == -4, "the constants");
    }

    /** Three goers, two ladders, two windows, an image: both ends of each range are taken, one beyond either is not. */
    private static void takes(Method m, String[] names, String told, String refusals) throws Exception {
        int[][] ends = new int[names.length][];
        for (int n = 0; n < names.length; n++) ends[n] = endsOf(names[n], told);
        boolean unlike = told.contains("not the same one");
        for (int n = 0; n < names.length; n++) {
            String what = m.getName() + " takes `" + names[n] + "` as told";
            holds(!refused(m, ends, n, ends[n][0], unlike, refusals), what + ": " + ends[n][0]);
            holds(refused(m, ends, n, ends[n][0] - 1, unlike, refusals), what + ": not " + (ends[n][0] - 1));
            if (ends[n][1] == HIGHEST) continue;
            holds(!refused(m, ends, n, ends[n][1], unlike, refusals), what + ": " + ends[n][1]);
            holds(refused(m, ends, n, ends[n][1] + 1, unlike, refusals), what + ": not " + (ends[n][1] + 1));
        }
        if (unlike) {
            IronStairs x = some();
            Object[] alike = new Object[names.length];
            Arrays.fill(alike, 1);
            m.invoke(x, alike);
            holds(x.status(0) == 1, m.getName() + " takes no goer twice");
        }
    }

    private static int[] endsOf(String name, String told) {
        String some = "`" + name + "` ";
        if (told.contains(some + "a goer")) return new int[] {0, 2};
        if (told.contains(some + "`NONE` or a goer")) return new int[] {-1, 2};
        if (told.contains(some + "a ladder") || told.contains(some + "a window")) return new int[] {0, 1};
        if (told.contains(some + "-1 or more")) return new int[] {-1, HIGHEST};
        Matcher range = Pattern.compile(some + "(\\d+)\\.\\.(\\d+)").matcher(told);
        holds(range.find(), "what " + name + " is: " + told);
        return new int[] {Integer.parseInt(range.group(1)), Integer.parseInt(range.group(2))};
    }

    private static IronStairs some() {
        IronStairs x = new IronStairs();
        x.ladder(5);
        x.ladder(6);
        for (int n = 0; n < 3; n++) x.goer(n, n, 3);
        for (int n = 0; n < 2; n++) x.window(n, n);
        x.image(0);
        x.image(1);
        return x;
    }

    /** One argument is the number, the others are the least; of two unlike goers the other one is another. */
    private static boolean refused(Method m, int[][] ends, int n, int number, boolean unlike, String refusals) throws Exception {
        Object[] arguments = new Object[ends.length];
        for (int k = 0; k < ends.length; k++) arguments[k] = k == n ? number : ends[k][0];
        if (unlike && n < 2 && number == 0) arguments[1 - n] = 1;
        if (unlike && n >= 2) arguments[1] = 1;
        IronStairs x = some();
        long answer = ((Number) m.invoke(x, arguments)).longValue();
        boolean counted = x.status(0) == 1;
        int due = refusals.equals("-10") ? -10 : refusals.equals("-1") ? -1 : IronStairs.BAD;
        if (counted) holds(answer == due, m.getName() + " refuses with " + due);
        return counted;
    }

    private static void refuses(Method m, String told) throws Exception {
        holds(m.getParameterCount() == 0 || told.matches("(`BAD`|-10|-1)(;.*)?"), m.getName() + " refuses what is bad: " + told);
        boolean no = told.contains("`NO`");
        Object[] arguments = new Object[m.getParameterCount()];
        Arrays.fill(arguments, 0);
        if (no) holds(((Number) m.invoke(new IronStairs(), arguments)).longValue() == IronStairs.NO, m.getName() + " refuses with NO");
        Matcher full = Pattern.compile("`FULL` with (\\d+)").matcher(told);
        if (full.find()) {
            holds(untilFull(m) == Integer.parseInt(full.group(1)), m.getName() + " is full with " + full.group(1));
        } else if (!no) {
            holds(m.getParameterCount() == 0 || untilFull(m) > 200, m.getName() + " is never full");
        }
    }

    /** How many of these calls are answered with something else than FULL, up to 201. */
    private static int untilFull(Method m) throws IllegalAccessException, InvocationTargetException {
        IronStairs x = new IronStairs();
        if (!m.getName().equals("goer")) x.goer(0, 0, 1);
        if (!m.getName().equals("window")) x.window(0, 0);
        Object[] arguments = new Object[m.getParameterCount()];
        Arrays.fill(arguments, 0);
        if (m.getName().equals("sound")) arguments[2] = 1;
        for (int n = 0; n <= 200; n++) {
            if (m.getName().equals("ladder")) arguments[0] = n;
            if (((Number) m.invoke(x, arguments)).longValue() == IronStairs.FULL) return n;
        }
        return 201;
    }

    // ---- the tables of kinds

    /** The rows of the table with that header, each from its first cell on. */
    private static List<String[]> table(String page, String header) {
        List<String[]> rows = new ArrayList<>();
        Matcher table = Pattern.compile("(?m)^\\| " + header + ".*\n\\|[-|]+\n((?:\\|.*\n)*)").matcher(page);
        holds(table.find(), "there is a table of " + header);
        for (String line : table.group(1).split("\n")) rows.add(line.substring(2, line.length() - 2).split(" \\| "));
        return rows;
    }

    private static void kindsOfGoers(String page) {
        List<String[]> rows = table(page, "kind \\| name \\| how loud");
        holds(rows.size() == 6, "there are six kinds of goers");
        for (int kind = 0; kind < rows.size(); kind++) {
            String[] row = rows.get(kind);
            holds(row[0].equals("" + kind), "kinds of goers are told in order");
            for (int f = 0; f < 5; f++) {
                IronStairs x = new IronStairs();
                x.goer(kind, 4 * f, 4 * f + 3);
                holds(row[3].split(" ")[f].equals("" + x.of(0, 6)), row[1] + " on floor " + f + ", even minute");
                x.minutes(1);
                holds(row[4].split(" ")[f].equals("" + x.of(0, 6)), row[1] + " on floor " + f + ", odd minute");
            }
        }
    }

    private static void kindsOfWindows(String page) {
        List<String[]> rows = table(page, "kind \\| name \\| how much");
        holds(rows.size() == 6, "there are six kinds of windows");
        for (int kind = 0; kind < rows.size(); kind++) {
            String[] row = rows.get(kind);
            holds(row[0].equals("" + kind), "kinds of windows are told in order");
            for (int x = 0; x < 5; x++) {
                String last = row[3].split(" ")[x];
                for (int d = 0; d < 8; d++) {
                    IronStairs o = new IronStairs();
                    o.window(kind, 0);
                    o.mark(0, x, d, 1);
                    boolean told = !last.equals("none") && d <= Integer.parseInt(last);
                    holds((o.kinds(0) >> kind & 1) == (told ? 1 : 0), row[1] + ", " + x + " loud, " + d + " far");
                }
            }
        }
    }

    // ---- the tests

    private static void tests(String page) throws IOException {
        Set<String> told = new TreeSet<>();
        Matcher line = Pattern.compile("(?m)^- `(\\w+Test)`:").matcher(page);
        while (line.find()) told.add(line.group(1) + ".java");
        Set<String> there = new TreeSet<>();
        try (Stream<Path> files = Files.list(Path.of("src/test/java"))) {
            for (Path p : files.toList()) {
                if (p.toString().endsWith("Test.java")) there.add(p.getFileName().toString());
            }
        }
        holds(told.equals(there), "each test is told: " + there);
        Matcher file = Pattern.compile("`(\\.ci/run|[\\w./]+\\.(?:java|md|txt|sh))`").matcher(page);
        while (file.find()) {
            String name = file.group(1);
            holds(name.equals("Evening.java") || name.equals("broken.txt") || Files.exists(Path.of(name)), name + " is there");
        }
    }
}
