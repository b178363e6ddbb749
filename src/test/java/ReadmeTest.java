import java.io.File;
import java.io.IOException;
import java.lang.reflect.Method;
import java.lang.reflect.Modifier;
import java.nio.file.Files;
import java.nio.file.Path;
import java.util.HashMap;
import java.util.Map;
import java.util.Set;
import java.util.TreeSet;
import java.util.regex.Matcher;
import java.util.regex.Pattern;

/** README.md: every call that it shows answers what it says, and the texts that it tells are there behind the call. */
public final class ReadmeTest {
    private static final String NEW = "    PatchHouse x = new PatchHouse();";
    private static final Pattern CALL = Pattern.compile("    x\\.(\\w+)\\(([^()]*)\\); +// ('[a-z]'|-?\\d+|[A-Z]+)(:.*)?");
    private static final Pattern TEXT = Pattern.compile("house ([01]) (?:has|with) \"([a-z]*)\"");
    private static final int MOST_CALLS = 512;

    private final Due due = new Due();
    private final Map<String, Method> face = new HashMap<>();
    private final Set<String> shown = new TreeSet<>();
    private PatchHouse x;
    private int calls;

    private ReadmeTest() {
        for (Method m : PatchHouse.class.getDeclaredMethods()) {
            if (Modifier.isPublic(m.getModifiers())) {
                face.put(m.getName(), m);
            }
        }
    }

    public static void main(String[] args) throws IOException, ReflectiveOperationException {
        new ReadmeTest().run(Files.readString(Path.of("README.md")));
    }

    private void run(String page) throws ReflectiveOperationException {
        for (String line : page.split("\n")) {
            if (line.equals(NEW)) {
                x = new PatchHouse();
                calls = 0;
            } else if (line.startsWith("    x.")) {
                call(line);
            }
        }
        for (String name : face.keySet()) {
            due.is("README.md shows " + name, shown.contains(name));
        }
        for (String name : new String[] {"NONE", "UNKNOWN", "OUTSIDE", "NOT", "FULL", "NULL", "CAST"}) {
            due.is("README.md shows " + name, shown.contains(name));
        }
        namesTests(page);
        due.end("ReadmeTest");
    }

    private void call(String line) throws ReflectiveOperationException {
        Matcher parts = CALL.matcher(line);
        boolean read = x != null && parts.matches() && face.containsKey(parts.group(1));
        due.is("can be read: " + line, read);
        if (!read) {
            return;
        }
        Method method = face.get(parts.group(1));
        Object[] given = numbers(parts.group(2));
        due.is("takes as many: " + line, given.length, method.getParameterCount());
        if (given.length != method.getParameterCount()) {
            return;
        }
        calls++;
        due.is("within 512 calls: " + line, calls <= MOST_CALLS);
        due.is(line.trim(), (int) method.invoke(x, given), number(parts.group(3)));
        shown.add(parts.group(1));
        shown.add(parts.group(3));
        texts(line);
    }

    private void texts(String line) {
        Matcher told = TEXT.matcher(line);
        while (told.find()) {
            String got = Sight.text(x, Integer.parseInt(told.group(1)));
            due.is(line.trim() + " but it has '" + got + "'", got.equals(told.group(2)));
        }
    }

    private static Object[] numbers(String given) throws ReflectiveOperationException {
        if (given.isEmpty()) {
            return new Object[0];
        }
        String[] parts = given.split(", ");
        Object[] all = new Object[parts.length];
        for (int i = 0; i < parts.length; i++) {
            all[i] = number(parts[i]);
        }
        return all;
    }

    /** A letter in quotes, a constant of the class, or a number. */
    private static int number(String word) throws ReflectiveOperationException {
        if (word.charAt(0) == '\'') {
            return word.charAt(1);
        }
        return Character.isUpperCase(word.charAt(0)) ? PatchHouse.class.getField(word).getInt(null) : Integer.parseInt(word);
    }

    /** Every test that .ci/run runs is named, and no other. */
    private void namesTests(String page) {
        Set<String> there = new TreeSet<>();
        String[] files = new File("src/test/java").list();
        for (String file : files == null ? new String[0] : files) {
            if (file.endsWith("Test.java")) {
                there.add(file.substring(0, file.length() - ".java".length()));
            }
        }
        Set<String> named = new TreeSet<>();
        Matcher names = Pattern.compile("`(\\w+Test)`").matcher(page);
        while (names.find()) {
            named.add(names.group(1));
        }
        due.is("README.md names the tests " + there + ", it names " + named, named.equals(there));
    }
}
