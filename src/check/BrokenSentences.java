import java.io.ByteArrayOutputStream;
import java.io.IOException;
import java.io.OutputStream;
import java.io.PrintStream;
import java.lang.reflect.Method;
import java.net.URI;
import java.nio.charset.StandardCharsets;
import java.nio.file.Files;
import java.nio.file.Path;
import java.util.ArrayList;
import java.util.HashMap;
import java.util.List;
import java.util.Map;
import java.util.Set;
import java.util.TreeSet;
import java.util.regex.Matcher;
import java.util.regex.Pattern;
import java.util.stream.Stream;
import javax.tools.ForwardingJavaFileManager;
import javax.tools.JavaCompiler;
import javax.tools.JavaFileManager;
import javax.tools.JavaFileObject;
import javax.tools.SimpleJavaFileObject;
import javax.tools.ToolProvider;

/**
 * Breaks the class by one sentence at a time, as broken.txt tells, and looks whether the test of that sentence fails.
 * Arguments: the class's source, broken.txt, the directory with the compiled tests.
 */
public final class BrokenSentences {
    private static final Pattern BREAK = Pattern.compile("([\\w.*]+): (.*?)(?: => (.*))?");

    private final String source;
    /** The tests, and the class as it is. */
    private final Map<String, byte[]> tests = new HashMap<>();
    private final JavaCompiler compiler = ToolProvider.getSystemJavaCompiler();
    private int breaks = 0;
    private int wrong = 0;

    private BrokenSentences(String source, Path compiled) throws IOException {
        this.source = source;
        try (Stream<Path> files = Files.list(compiled)) {
            for (Path p : files.toList()) {
                String name = p.getFileName().toString();
                if (name.endsWith(".class")) tests.put(name.substring(0, name.length() - 6), Files.readAllBytes(p));
            }
        }
    }

    public static void main(String[] args) throws Exception {
        BrokenSentences all = new BrokenSentences(Files.readString(Path.of(args[0])), Path.of(args[2]));
        Set<String> untold = all.testsOfSentences();
        String test = "";
        for (String line : Files.readAllLines(Path.of(args[1]))) {
            if (line.isBlank() || line.startsWith("#")) continue;
            if (line.startsWith("= ")) {
                test = line.substring(2);
                if (!untold.remove(test)) all.tell(test + " is told twice or is none");
                continue;
            }
            for (String broken : all.broken(line)) all.tryOne(test, line, broken);
        }
        for (String name : untold) all.tell("no break is told for " + name);
        System.out.println(all.breaks + " breaks, " + all.wrong + " that no test tells, or that could not be tried");
        if (all.wrong > 0) System.exit(1);
    }

    private void tell(String what) {
        wrong++;
        System.out.println(what);
    }

    private Set<String> testsOfSentences() throws Exception {
        Set<String> names = new TreeSet<>();
        Loader loader = new Loader(new HashMap<>());
        for (String name : tests.keySet()) {
            if (name.contains("$") || !name.endsWith("Test")) continue;
            Class<?> c = loader.loadClass(name);
            for (Object method : ((Map<?, ?>) sentences(loader, "testsOf", Class.class).invoke(null, c)).keySet()) {
                names.add(name + "." + method);
            }
        }
        return names;
    }

    private static Method sentences(Loader loader, String name, Class<?>... parameters) throws Exception {
        Method m = loader.loadClass("Sentences").getDeclaredMethod(name, parameters);
        m.setAccessible(true);
        return m;
    }

    /** The sources that a line stands for: one for each place at which what is to be replaced is found. */
    private List<String> broken(String line) {
        List<String> sources = new ArrayList<>();
        Matcher m = BREAK.matcher(line);
        if (!m.matches()) {
            tell("not a break: " + line);
            return sources;
        }
        int[] part = part(m.group(1));
        String find = m.group(2).replace("\\n", "\n");
        for (int at = source.indexOf(find, part[0]); at >= 0 && at < part[1]; at = source.indexOf(find, at + 1)) {
            for (String by : m.group(3) == null ? standFor(find) : List.of(m.group(3).replace("\\n", "\n"))) {
                sources.add(source.substring(0, at) + by + source.substring(at + find.length()));
            }
        }
        if (sources.isEmpty()) tell("not found, or nothing to put there: " + line);
        return sources;
    }

    /** Bounds are broken by one at either end, a refusal in its answer, in what is counted, in what it changes. */
    private static List<String> standFor(String find) {
        Matcher bounds = Pattern.compile("within\\((.*), (.*), (.*)\\)").matcher(find);
        if (bounds.matches()) {
            String n = "within(" + bounds.group(1) + ", ";
            String low = bounds.group(2);
            String high = bounds.group(3);
            return List.of(n + low + " - 1, " + high + ")", n + low + " + 1, " + high + ")", n + low + ", " + high + " - 1)",
                n + low + ", " + high + " + 1)");
        }
        switch (find) {
            case "return bad();": return List.of("return badAs(-9);", "return BAD;", "{ now.minute++; return bad(); }",
                "{ now.past.dropLast(); return bad(); }", "{ bad(); return bad(); }");
            case "return badAs(-10);": return List.of("return badAs(-2);", "return -10;", "{ now.minute++; return badAs(-10); }");
            case "return full();": return List.of("{ full(); return -9; }", "return FULL;", "{ now.minute++; return full(); }",
                "{ now.past.dropLast(); return full(); }", "{ bad(); return FULL; }", "{ no(); return FULL; }");
            case "return no();": return List.of("{ no(); return -9; }", "return NO;", "{ now.minute++; return no(); }",
                "{ bad(); return NO; }", "{ full(); return NO; }");
            default: return List.of();
        }
    }

    /** From where to where a method (Class.method for one of a class inside), or all (*), stands in the source. */
    private int[] part(String name) {
        if (name.equals("*")) return new int[] {0, source.length()};
        int dot = name.indexOf('.');
        int[] in = {0, source.indexOf("\n    private static final class ")};
        if (dot > 0) in = block("^    private static final class " + name.substring(0, dot) + " \\{$", 0, source.length());
        String indent = dot > 0 ? "        " : "    ";
        return block("^" + indent + "[\\w\\[\\] ]*\\b" + name.substring(dot + 1) + "\\(.*\\{$", in[0], in[1]);
    }

    private int[] block(String head, int from, int to) {
        Matcher m = Pattern.compile(head, Pattern.MULTILINE).matcher(source).region(from, to);
        if (!m.find()) return new int[] {0, 0};
        String indent = m.group().substring(0, m.group().length() - m.group().stripLeading().length());
        return new int[] {m.start(), source.indexOf("\n" + indent + "}", m.end())};
    }

    private void tryOne(String test, String line, String broken) throws Exception {
        breaks++;
        Map<String, byte[]> classes = compile(broken);
        if (classes.isEmpty()) {
            tell(test + ": does not compile: " + line);
            return;
        }
        Loader loader = new Loader(classes);
        int dot = test.indexOf('.');
        PrintStream out = System.out;
        System.setOut(new PrintStream(OutputStream.nullOutputStream()));
        int told;
        try {
            Class<?> c = loader.loadClass(test.substring(0, dot));
            told = (Integer) sentences(loader, "wrongIn", Class.class, String.class).invoke(null, c, test.substring(dot + 1));
        } finally {
            System.setOut(out);
        }
        if (told == 0) tell(test + " holds, though broken: " + line);
    }

    private Map<String, byte[]> compile(String text) throws IOException {
        Map<String, ByteArrayOutputStream> made = new HashMap<>();
        JavaFileObject file = new SimpleJavaFileObject(URI.create("string:///IronStairs.java"), JavaFileObject.Kind.SOURCE) {
            @Override
            public CharSequence getCharContent(boolean ignoreEncodingErrors) {
                return text;
            }
        };
        JavaFileManager standard = compiler.getStandardFileManager(d -> { }, null, StandardCharsets.UTF_8);
        JavaFileManager manager = new ForwardingJavaFileManager<>(standard) {
            @Override
            public JavaFileObject getJavaFileForOutput(Location l, String name, JavaFileObject.Kind kind, javax.tools.FileObject s) {
                made.put(name, new ByteArrayOutputStream());
                return new SimpleJavaFileObject(URI.create("mem:///" + name + ".class"), kind) {
                    @Override
                    public OutputStream openOutputStream() {
                        return made.get(name);
                    }
                };
            }
        };
        Map<String, byte[]> classes = new HashMap<>();
        if (!compiler.getTask(null, manager, d -> { }, null, null, List.of(file)).call()) return classes;
        made.forEach((name, bytes) -> classes.put(name, bytes.toByteArray()));
        return classes;
    }

    /** Has the broken class and the tests anew, as a test keeps its state in static fields. */
    private final class Loader extends ClassLoader {
        private final Map<String, byte[]> broken;

        Loader(Map<String, byte[]> broken) {
            super(ClassLoader.getPlatformClassLoader());
            this.broken = broken;
        }

        @Override
        protected Class<?> findClass(String name) throws ClassNotFoundException {
            byte[] bytes = broken.containsKey(name) ? broken.get(name) : tests.get(name);
            if (bytes == null) throw new ClassNotFoundException(name);
            return defineClass(name, bytes, 0, bytes.length);
        }
    }
}
