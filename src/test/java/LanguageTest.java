import java.lang.reflect.Constructor;
import java.lang.reflect.Field;
import java.lang.reflect.Method;
import java.lang.reflect.Modifier;
import java.nio.charset.StandardCharsets;
import java.nio.file.Files;
import java.nio.file.Path;
import java.util.ArrayList;
import java.util.Arrays;
import java.util.List;
import java.util.Set;
import java.util.TreeSet;
import java.util.regex.Matcher;
import java.util.regex.Pattern;

/** The rules of shared/LANGUAGE.md that can be read off the class and its source. Run where the project's root is. */
public final class LanguageTest {
    private static final String FACE = "int back() int ladder(int) int goer(int,int,int) int window(int,int) int type(int) "
        + "int clear() int read() int minutes(int) int turns(int) int draws(int) int undo() int of(int,int) "
        + "int about(int,int) int rungs(int,int) int far(int,int) int where(int,int) int meet(int,int) "
        + "int waits(int,int,int) int down(int) int cut(int) int doors(int) int sound(int,int,int) int who() "
        + "int note(int,int,int,int) int mark(int,int,int,int) int forget(int) int is(int) int look(int) int kinds(int) "
        + "int ask(int) int shy(int,int,int) int odds(int,int,int) int nights(int,int) long part(int) int image(int) "
        + "int from(int) int status(int) int count(int) long digest()";
    private static int wrong = 0;

    private static void holds(boolean held, String what) {
        if (held) return;
        wrong++;
        System.out.println("not so: " + what);
    }

    public static void main(String[] args) throws Exception {
        String source = Files.readString(Path.of("src/main/java/IronStairs.java"), StandardCharsets.UTF_8);
        face();
        nested();
        words(source);
        lengths(source);
        System.out.println(wrong == 0 ? "the language is kept to" : wrong + " rules are broken");
        if (wrong != 0) System.exit(1);
    }

    private static void face() {
        Class<?> c = IronStairs.class;
        holds(Modifier.isPublic(c.getModifiers()) && Modifier.isFinal(c.getModifiers()), "the class is public and final");
        Set<String> found = new TreeSet<>();
        Set<String> names = new TreeSet<>();
        for (Method m : c.getDeclaredMethods()) {
            if (Modifier.isPrivate(m.getModifiers())) continue;
            List<String> parameters = new ArrayList<>();
            for (Class<?> p : m.getParameterTypes()) parameters.add(p.getName());
            found.add(m.getReturnType().getName() + " " + m.getName() + "(" + String.join(",", parameters) + ")");
            names.add(m.getName());
            holds(Modifier.isPublic(m.getModifiers()) && !Modifier.isStatic(m.getModifiers()), m.getName() + " is public");
        }
        holds(found.equals(new TreeSet<>(Arrays.asList(FACE.split(" (?=int |long )")))), "the face has the document's methods");
        for (Method m : c.getDeclaredMethods()) {
            if (Modifier.isPrivate(m.getModifiers())) holds(!names.contains(m.getName()), m.getName() + " is no public name");
        }
        Set<String> constants = new TreeSet<>();
        for (Field f : c.getDeclaredFields()) {
            if (!Modifier.isPrivate(f.getModifiers())) constants.add(f.getName());
        }
        holds(constants.equals(Set.of("NONE", "BAD", "NO", "FULL")), "the constants are the document's");
        Constructor<?>[] constructors = c.getDeclaredConstructors();
        holds(constructors.length == 1 && Modifier.isPublic(constructors[0].getModifiers()), "one public constructor");
    }

    private static List<Class<?>> classes() {
        List<Class<?>> all = new ArrayList<>(List.of(IronStairs.class));
        all.addAll(Arrays.asList(IronStairs.class.getDeclaredClasses()));
        return all;
    }

    private static void nested() {
        holds(classes().size() <= 13, "at most some twelve classes");
        for (Class<?> c : classes()) {
            int fields = 0;
            for (Field f : c.getDeclaredFields()) {
                if (!Modifier.isStatic(f.getModifiers())) fields++;
                else holds(Modifier.isFinal(f.getModifiers()), c.getName() + "." + f.getName() + " is final");
            }
            holds(fields <= 22, c.getName() + " has at most some twenty fields");
            for (Method m : c.getDeclaredMethods()) {
                holds(m.getParameterCount() <= 7, c.getName() + "." + m.getName() + " has at most seven parameters");
            }
            if (c == IronStairs.class) continue;
            int m = c.getModifiers();
            holds(Modifier.isStatic(m) && !Modifier.isPublic(m) && !Modifier.isProtected(m), c.getName() + " is static, not public");
        }
    }

    private static void words(String source) {
        String code = source.replaceAll("(?s)/\\*.*?\\*/", "").replaceAll("//.*", "");
        for (int i = 0; i < code.length(); i++) {
            holds(code.charAt(i) > 0 && code.charAt(i) < 128, "the sign at " + i + " is 1 to 127");
        }
        String forbidden = "\\b(package|throw|throws|try|catch|finally|synchronized|assert|hashCode|Random|Thread|nanoTime"
            + "|currentTimeMillis|\\w+Exact|Object)\\b|::|for \\(;;|while \\(true";
        Matcher m = Pattern.compile(forbidden).matcher(code);
        while (m.find()) holds(false, "no '" + m.group() + "'");
        for (String line : code.split("\n")) {
            boolean imported = line.startsWith("import ");
            holds(!imported || line.matches("import java\\.util\\.(ArrayList|Arrays|Iterator|List);"), "no '" + line + "'");
            holds(!line.contains("->") || line.matches("\\s*(case|default)\\b.*"), "no lambda: '" + line.trim() + "'");
        }
    }

    private static void lengths(String source) {
        String[] lines = source.split("\n");
        int start = -1;
        String indent = "";
        for (int n = 0; n < lines.length; n++) {
            Matcher m = Pattern.compile("^( {4}| {8})\\S.*\\) \\{$").matcher(lines[n]);
            if (start < 0 && m.find()) {
                start = n;
                indent = m.group(1);
            } else if (start >= 0 && lines[n].equals(indent + "}")) {
                holds(n - start <= 65, "the method at line " + (start + 1) + " is short");
                start = -1;
            }
        }
    }
}
