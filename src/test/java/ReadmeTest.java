import java.io.IOException;
import java.lang.reflect.Method;
import java.lang.reflect.Modifier;
import java.nio.file.Files;
import java.nio.file.Path;
import java.util.ArrayList;
import java.util.List;
import java.util.Set;
import java.util.TreeSet;
import java.util.regex.Matcher;
import java.util.regex.Pattern;
import java.util.stream.Stream;

/** README.md says what is so: the answers of its examples, its list of calls and of ERRORS, the files it names. */
public final class ReadmeTest {
    private static final String NEW = "FivePlayers x = new FivePlayers();";
    private static final Pattern CALL = Pattern.compile("x\\.(\\w+)\\((.*)\\); +// (-?\\d+)(: .*)?");
    private static final Pattern LISTED = Pattern.compile("\\| `(\\w+)\\(([\\w, ]*)\\)` \\| .* \\| ?([A-Z, ]*)\\|");
    private static final Pattern ERROR = Pattern.compile("\\| (\\d) \\| (-\\d+) \\| ([A-Z]+) \\| .* \\|");
    private static final Pattern FILE = Pattern.compile("`([A-Z]\\w*(?:Test|Edges|Players)|Twins|Plays|Doc)`");
    private static final Pattern SAID = Pattern.compile("\\b(BEYOND|NONE|STATE|FULL|KIND)\\b");
    private static final int[] ERRORS = {Due.BEYOND, Due.NONE, Due.STATE, Due.FULL, Due.KIND};

    public static void main(String[] args) throws IOException, ReflectiveOperationException {
        List<String> lines = Files.readAllLines(Path.of("README.md"));
        examples(lines);
        listed(lines);
        errors(lines);
        files(lines);
        Due.end();
    }

    private static void examples(List<String> lines) throws ReflectiveOperationException {
        FivePlayers x = null;
        int calls = 0;
        boolean inside = false;
        for (String line : lines) {
            if (line.startsWith("```")) {
                inside = line.equals("```java");
            } else if (inside && line.equals(NEW)) {
                x = new FivePlayers();
            } else if (inside && !line.isEmpty()) {
                Matcher m = CALL.matcher(line);
                boolean reads = m.matches() && x != null;
                Due.is("whether this is a call with its answer: " + line, reads ? 1 : 0, 1);
                if (reads) {
                    Due.is("README.md: " + line, answer(x, m.group(1), m.group(2)), Long.parseLong(m.group(3)));
                    calls++;
                }
            }
        }
        Due.is("whether there are examples", calls > 0 ? 1 : 0, 1);
    }

    /** The arguments must be written as Java wants them: a long with L, a boolean as a word. */
    private static long answer(FivePlayers x, String name, String list) throws ReflectiveOperationException {
        Method method = method(name);
        Class<?>[] types = method.getParameterTypes();
        String[] words = words(list);
        if (words.length != types.length) {
            throw new IllegalArgumentException(name + " takes " + types.length);
        }
        Object[] values = new Object[words.length];
        for (int i = 0; i < words.length; i++) {
            values[i] = value(types[i], words[i]);
        }
        return ((Number) method.invoke(x, values)).longValue();
    }

    private static Object value(Class<?> type, String word) {
        if (type == boolean.class) {
            return word.equals("true");
        }
        if (type == long.class) {
            return Long.decode(word.replaceAll("L$", ""));
        }
        return Integer.decode(word);
    }

    private static String[] words(String list) {
        return list.isEmpty() ? new String[0] : list.split(", ");
    }

    private static Method method(String name) {
        for (Method method : FivePlayers.class.getDeclaredMethods()) {
            if (Modifier.isPublic(method.getModifiers()) && method.getName().equals(name)) {
                return method;
            }
        }
        throw new IllegalArgumentException(name);
    }

    /** Calls stand in the list in the document's order: promise 2 is the first. */
    private static void listed(List<String> lines) {
        List<String> calls = new ArrayList<>();
        for (String line : lines) {
            Matcher m = LISTED.matcher(line);
            if (m.matches()) {
                String name = m.group(1);
                int promise = calls.size() + 2;
                calls.add(name);
                Due.is("arguments of " + line, words(m.group(2)).length, method(name).getParameterCount());
                Set<String> said = new TreeSet<>(List.of(m.group(3).trim().split(", ")));
                Set<String> due = said(promise, name);
                Due.is("whether " + name + " has the ERRORS " + due + " in: " + line, said.equals(due) ? 1 : 0, 1);
            }
        }
        Due.is("whether the calls are listed: " + calls, calls.equals(List.of(Calls.METHODS)) ? 1 : 0, 1);
    }

    /** The ERRORS that the document names with a call; nothing is one word, too, as in an empty list. */
    private static Set<String> said(int promise, String name) {
        Set<String> all = new TreeSet<>();
        Due.is("whether promise " + promise + " is of " + name, Doc.says(promise, " " + name + "(") ? 1 : 0, 1);
        Matcher m = SAID.matcher(Doc.text(promise));
        // KIND is a word of partIs(), too, and there no ERROR
        while (m.find()) {
            if (!(name.equals("partIs") && m.group().equals("KIND"))) {
                all.add(m.group());
            }
        }
        if (all.isEmpty()) {
            all.add("");
        }
        return all;
    }

    private static void errors(List<String> lines) {
        int k = 0;
        for (String line : lines) {
            Matcher m = ERROR.matcher(line);
            if (m.matches() && k < ERRORS.length) {
                Due.is("k of " + line, Integer.parseInt(m.group(1)), k + 1);
                Due.is("answer of " + line, Integer.parseInt(m.group(2)), ERRORS[k]);
                String words = "LOW - " + (k + 1) + " " + m.group(3);
                Due.is("whether the TERMS say " + words, Doc.says(Doc.TERMS, words) ? 1 : 0, 1);
                k++;
            }
        }
        Due.is("ERRORS", k, ERRORS.length);
    }

    private static void files(List<String> lines) throws IOException {
        Path tests = Path.of("src/test/java");
        Set<String> named = new TreeSet<>();
        for (String line : lines) {
            Matcher m = FILE.matcher(line);
            while (m.find()) {
                named.add(m.group(1));
                Path file = tests.resolve(m.group(1) + ".java");
                Due.is("whether there is " + file, Files.exists(file) ? 1 : 0, 1);
            }
        }
        try (Stream<Path> all = Files.list(tests)) {
            all.map(p -> p.getFileName().toString().replace(".java", "")).filter(n -> n.matches(".*(Test|Edges)"))
                    .forEach(n -> Due.is("whether README.md names " + n, named.contains(n) ? 1 : 0, 1));
        }
        Due.is("whether .ci/run can be run", Files.isExecutable(Path.of(".ci/run")) ? 1 : 0, 1);
    }
}
