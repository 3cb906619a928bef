import java.io.IOException;
import java.lang.reflect.Method;
import java.lang.reflect.Modifier;
import java.nio.file.Files;
import java.nio.file.Path;
import java.util.HashMap;
import java.util.List;
import java.util.Map;
import java.util.regex.Matcher;
import java.util.regex.Pattern;
import java.util.stream.Stream;

/** README.md: its calls answer what stands behind them, and it leaves out no call of the face and no test. */
public final class ReadmeTests {
    private static final String BEGIN = "HeavierByHand x = new HeavierByHand();";
    private static final Pattern CALL = Pattern.compile(
        "(?:int (\\w+) = )?x\\.(\\w+)\\(([^()]*)\\);\\s*// (-?\\d+|true|false)(?:$|[ :].*)");
    private static final Due due = new Due();

    public static void main(String[] args) throws Exception {
        String page = Files.readString(Path.of("README.md"));
        calls(page);
        namesEachCall(page);
        namesEachTest(page);
        due.end();
    }

    /** The one block of Java, line by line: none of its lines may be of a form that is not looked at here. */
    private static void calls(String page) throws ReflectiveOperationException {
        int from = page.indexOf("```java\n");
        int to = page.indexOf("```", from + 3);
        due.is("a block of Java", from >= 0 && to > from, true);
        List<String> lines = page.substring(from, to).lines().skip(1).filter(s -> !s.isBlank() && !s.startsWith("//")).toList();
        due.is("it begins with an object", lines.get(0).equals(BEGIN), true);
        due.is("it has calls, and no more than an object is good for", lines.size() > 30 && lines.size() <= 512, true);
        HeavierByHand x = new HeavierByHand();
        Map<String, Integer> known = new HashMap<>();
        for (String line : lines.subList(1, lines.size())) {
            Matcher call = CALL.matcher(line);
            due.is("a call with its answer: " + line, call.matches(), true);
            if (call.matches()) {
                long got = answer(x, call.group(2), call.group(3), known);
                due.is(line, got, call.group(4).matches("true|false") ? truth(call.group(4)) : Long.parseLong(call.group(4)));
                if (call.group(1) != null) {
                    known.put(call.group(1), (int) got);
                }
            }
        }
    }

    private static long truth(String word) {
        return word.equals("true") ? 1 : 0;
    }

    private static long answer(HeavierByHand x, String name, String given, Map<String, Integer> known)
            throws ReflectiveOperationException {
        Method method = method(name);
        Class<?>[] types = method.getParameterTypes();
        String[] words = given.isBlank() ? new String[0] : given.split(", ");
        Object[] values = new Object[types.length];
        for (int i = 0; i < types.length; i++) {
            String word = words[i];
            if (types[i] == boolean.class) {
                values[i] = word.equals("true");
            } else {
                values[i] = known.containsKey(word) ? known.get(word) : Integer.decode(word);
            }
        }
        Object got = method.invoke(x, values);
        return got instanceof Boolean so ? (so ? 1 : 0) : ((Number) got).longValue();
    }

    private static Method method(String name) {
        for (Method m : HeavierByHand.class.getDeclaredMethods()) {
            if (m.getName().equals(name) && Modifier.isPublic(m.getModifiers())) {
                return m;
            }
        }
        throw new IllegalArgumentException("README.md names a call that is none: " + name);
    }

    private static void namesEachCall(String page) {
        for (Method m : HeavierByHand.class.getDeclaredMethods()) {
            if (Modifier.isPublic(m.getModifiers())) {
                due.is("README.md shows " + m.getName(), page.contains("x." + m.getName() + "("), true);
            }
        }
    }

    private static void namesEachTest(String page) throws IOException {
        try (Stream<Path> files = Files.list(Path.of("src/test/java"))) {
            for (Path file : files.sorted().toList()) {
                String name = file.getFileName().toString();
                due.is("README.md names " + name, Pattern.compile("[/`]" + Pattern.quote(name) + "`").matcher(page).find(), true);
            }
        }
    }
}
