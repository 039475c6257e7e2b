import java.io.IOException;
import java.lang.reflect.InvocationTargetException;
import java.lang.reflect.Method;
import java.nio.file.Files;
import java.nio.file.Path;
import java.util.ArrayList;
import java.util.List;
import java.util.TreeMap;
import java.util.TreeSet;
import java.util.regex.Matcher;
import java.util.regex.Pattern;
import java.util.stream.Stream;

/** README.md tells the truth: its calls are made and answered, its tables are the face, its tests are there. */
public final class ReadmeTest {
    private static final Pattern CALL = Pattern.compile("store\\.(\\w+)\\(([^)]*)\\);(?: +// (.*))?");
    private static final Pattern PUTS = Pattern.compile(
            "for \\(int key = (\\d+); key < (\\d+); key\\+\\+\\) store\\.put\\(key, key\\);");
    private static final Pattern ROW = Pattern.compile("\\| `(\\w+)\\(([^)]*)\\)` \\| .* \\| ([^|]*) \\|");
    private static final Check check = new Check("readme");

    private final TreeMap<String, Method> face = new TreeMap<>();
    private final TreeSet<String> called = new TreeSet<>();
    private final TreeSet<String> told = new TreeSet<>();
    private PastTree store;
    private int calls;

    public static void main(String[] args) throws Exception {
        List<String> lines = Files.readAllLines(Path.of("README.md"));
        ReadmeTest test = new ReadmeTest();
        test.makeCalls(lines);
        test.holdTables(lines);
        namesAllTests(String.join("\n", lines));
        check.end();
    }

    private ReadmeTest() {
        for (Method method : PastTree.class.getMethods()) {
            if (method.getDeclaringClass() == PastTree.class) {
                face.put(method.getName(), method);
            }
        }
    }

    private void makeCalls(List<String> lines) throws IllegalAccessException {
        boolean isJava = false;
        for (String line : lines) {
            if (line.startsWith("```")) {
                isJava = line.equals("```java");
            } else if (isJava) {
                makeCall(line);
            }
        }
        check.same("methods that are shown", called, new TreeSet<>(face.keySet()));
    }

    private void makeCall(String line) throws IllegalAccessException {
        Matcher puts = PUTS.matcher(line);
        Matcher call = CALL.matcher(line);
        if (line.equals("PastTree store = new PastTree();")) {
            store = new PastTree();
            calls = 0;
        } else if (puts.matches()) {
            int end = Integer.parseInt(puts.group(2));
            for (int key = Integer.parseInt(puts.group(1)); key < end; key++) {
                store.put(key, key);
                calls++;
            }
        } else if (call.matches() && face.containsKey(call.group(1))) {
            called.add(call.group(1));
            calls++;
            Method method = face.get(call.group(1));
            check.same(line, answerOf(method, call.group(2)), dueOf(method, call.group(3)));
        } else {
            check.that("a call is understood: " + line, false);
        }
        check.that("an object is used for 512 calls at most", calls <= 512);
    }

    private String answerOf(Method method, String args) throws IllegalAccessException {
        Class<?>[] types = method.getParameterTypes();
        String[] texts = args.isEmpty() ? new String[0] : args.split(", ");
        Object[] values = new Object[texts.length];
        for (int i = 0; i < texts.length; i++) {
            values[i] = types[i] == long.class ? (Object) Long.valueOf(texts[i].replace("L", ""))
                    : (Object) Integer.valueOf(texts[i]);
        }
        try {
            return String.valueOf(method.invoke(store, values));
        } catch (InvocationTargetException e) {
            return "throws " + e.getCause().getClass().getSimpleName();
        }
    }

    /** What stands behind a colon explains the answer. A call without an answer needs no comment. */
    private static String dueOf(Method method, String comment) {
        if (comment == null) {
            return method.getReturnType() == void.class ? "null" : "not told";
        }
        int colon = comment.indexOf(':');
        return colon < 0 ? comment : comment.substring(0, colon);
    }

    private void holdTables(List<String> lines) {
        for (String line : lines) {
            Matcher row = ROW.matcher(line);
            if (row.matches()) {
                holdRow(row.group(1), row.group(2), row.group(3));
            }
        }
        check.same("methods in the tables", told, new TreeSet<>(face.keySet()));
    }

    private void holdRow(String name, String parameters, String exceptions) {
        Method method = face.get(name);
        check.that(name + " is in the face, and in one table", method != null && told.add(name));
        if (method == null) {
            return;
        }
        int count = parameters.isEmpty() ? 0 : parameters.split(", ").length;
        check.same(name + ": parameters", count, method.getParameterCount());
        List<String> due = new ArrayList<>();
        for (Class<?> type : method.getExceptionTypes()) {
            due.add("`" + type.getSimpleName() + "`");
        }
        check.same(name + " throws", exceptions, String.join(", ", due));
    }

    private static void namesAllTests(String text) throws IOException {
        try (Stream<Path> files = Files.list(Path.of("src/test/java"))) {
            for (Path file : files.sorted().toList()) {
                String name = file.getFileName().toString().replace(".java", "");
                check.that("README.md names `" + name + "`", text.contains("`" + name + "`"));
            }
        }
        check.that("README.md says how the tests are run", text.contains("\n.ci/run\n"));
    }
}
