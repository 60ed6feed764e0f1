import java.io.IOException;
import java.lang.reflect.InvocationTargetException;
import java.lang.reflect.Method;
import java.lang.reflect.Modifier;
import java.nio.file.DirectoryStream;
import java.nio.file.Files;
import java.nio.file.Path;
import java.util.regex.Matcher;
import java.util.regex.Pattern;

/** Holds README.md to what the class does: its example is called line by line, and it names every call and every test. */
public final class ReadmeTest {
    private static int looked = 0;
    private static int wrong = 0;

    public static void main(String[] args) throws Exception {
        String page = Files.readString(Path.of("README.md"));
        example(block(page, "java"));
        text(block(page, "text").trim());
        names(page);
        System.out.println(looked + " things that README.md says looked at, " + wrong + " faults");
        if (wrong != 0) System.exit(1);
    }

    private static void same(String what, long got, long said) {
        looked++;
        if (got == said) return;
        wrong++;
        System.out.println(what + " answered " + got + ", README.md says " + said);
    }

    private static void holds(boolean is, String otherwise) {
        looked++;
        if (is) return;
        wrong++;
        System.out.println(otherwise);
    }

    private static String block(String page, String sort) {
        Matcher m = Pattern.compile("(?s)```" + sort + "\n(.*?)```").matcher(page);
        boolean found = m.find();
        holds(found, "README.md has no block of " + sort);
        return found ? m.group(1) : "";
    }

    /** Each line but the first is a call, and a number behind it. */
    private static void example(String block) throws IllegalAccessException, InvocationTargetException {
        MouldThatComesOff x = new MouldThatComesOff();
        String[] lines = block.split("\n");
        holds(lines[0].equals("MouldThatComesOff x = new MouldThatComesOff();"), "the example begins with " + lines[0]);
        holds(lines.length > 10, "the example is short");
        for (int k = 1; k < lines.length; k++) {
            Matcher m = Pattern.compile("x\\.(\\w+)\\((.*)\\); *// (-?\\d+): .*").matcher(lines[k]);
            holds(m.matches(), "no call with an answer: " + lines[k]);
            if (m.matches()) same(lines[k], called(x, m.group(1), m.group(2)), Long.parseLong(m.group(3)));
        }
    }

    private static long called(MouldThatComesOff x, String name, String told) throws IllegalAccessException, InvocationTargetException {
        String[] words = told.isEmpty() ? new String[0] : told.split(", ");
        for (Method m : MouldThatComesOff.class.getDeclaredMethods()) {
            if (!Modifier.isPublic(m.getModifiers()) || !m.getName().equals(name) || m.getParameterCount() != words.length) continue;
            Object[] values = new Object[words.length];
            for (int i = 0; i < words.length; i++) values[i] = valueOf(words[i], m.getParameterTypes()[i]);
            return ((Number) m.invoke(x, values)).longValue();
        }
        holds(false, "no such call: " + name);
        return Long.MIN_VALUE;
    }

    private static Object valueOf(String word, Class<?> type) {
        if (type == boolean.class) return word.equals("true");
        if (type == int.class) return Integer.valueOf(word);
        Matcher shifted = Pattern.compile("1L << (\\d+)").matcher(word);
        return shifted.matches() ? 1L << Integer.parseInt(shifted.group(1)) : Long.parseLong(word.replace("L", ""));
    }

    private static void text(String figure) {
        MouldThatComesOff x = new MouldThatComesOff();
        for (char c : figure.toCharArray()) x.feed(c, 1);
        same("read() of the text", x.read(), 8);
        same("its solid cubes", x.status(1), 8);
        same("its pieces", x.status(2), 2);
        same("its wear", x.status(5), 50);
    }

    private static void names(String page) throws IOException {
        for (Method m : MouldThatComesOff.class.getDeclaredMethods()) {
            if (Modifier.isPublic(m.getModifiers())) holds(page.contains("`" + m.getName() + "()`"), "README.md doesn't name " + m.getName());
        }
        for (Class<?> c : MouldThatComesOff.class.getDeclaredClasses()) {
            holds(page.contains("`" + c.getSimpleName() + "`"), "README.md doesn't name " + c.getSimpleName());
        }
        try (DirectoryStream<Path> tests = Files.newDirectoryStream(Path.of("src/test/java"), "*.java")) {
            for (Path test : tests) {
                String name = test.getFileName().toString().replace(".java", "");
                holds(page.contains("- `" + name + "`: "), "README.md doesn't name " + name);
            }
        }
    }
}
