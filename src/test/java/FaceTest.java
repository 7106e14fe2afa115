import java.io.IOException;
import java.lang.reflect.Field;
import java.lang.reflect.Method;
import java.lang.reflect.Modifier;
import java.nio.file.Files;
import java.nio.file.Path;
import java.util.Set;
import java.util.TreeSet;
import java.util.regex.Matcher;
import java.util.regex.Pattern;

/** The document's public face, and those rules of LANGUAGE.md that can be seen from outside or by a word. */
public final class FaceTest {
    private static final Path FILE = Path.of("src/main/java/FivePlayers.java");
    private static final Pattern HEADING =
            Pattern.compile("Ahead of the calls ([^:]*) the interface says: (---- .*?)\\.(?= Ahead| *$)");
    private static final String[] FACE = {"int lines(int)", "int part(int,int)", "int as(int,int)",
        "int partIs(int,int)", "int entry(int,int,int,int)", "int entryIs(int,int)", "int shift(int,int)",
        "int on(int)", "int player(int,int)", "int know(int,int,boolean)", "int can(int,int)", "int wish(int,int)",
        "int feed(long,int)", "int text(int)", "int change(int,int,int)", "int two(int,int,int)", "int cast(int,int)",
        "int block(int)", "int bars(int)", "int busy(int)", "int fewest()", "int group(int)", "int crowd()",
        "int helps(int,int)", "int without(int)", "int best(int,int,int)", "int take(int,int)", "long castings(int)",
        "int leave(int,int)", "int never(int,int,int)", "int voice(int,int,int)", "int trace(int)",
        "int sheet(int,int,int)", "int put(int,int,int)", "int move(int,int,int,int,int)", "int image()",
        "int restore()", "int tell(int)", "int check(int)", "int count(int)", "int told(int)"};

    public static void main(String[] args) throws IOException {
        face();
        insides();
        words(FILE);
        headings(Files.readString(FILE));
        Due.end();
    }

    private static void face() {
        Class<?> c = FivePlayers.class;
        Due.is("public and final", c.getModifiers(), Modifier.PUBLIC | Modifier.FINAL);
        Due.is("constructors", c.getDeclaredConstructors().length, 1);
        Due.is("public ones", c.getConstructors().length, 1);
        Set<String> due = new TreeSet<>(Set.of(FACE));
        Set<String> open = new TreeSet<>();
        for (Method m : c.getDeclaredMethods()) {
            if (!Modifier.isPrivate(m.getModifiers())) {
                open.add(written(m));
                Due.is(m + " is public", m.getModifiers(), Modifier.PUBLIC);
            }
        }
        Due.is("methods " + open, open.equals(due) ? 1 : 0, 1);
        for (Field f : c.getDeclaredFields()) {
            Due.is(f + " is private", f.getModifiers() & Modifier.PRIVATE, Modifier.PRIVATE);
        }
    }

    private static String written(Method m) {
        StringBuilder all = new StringBuilder();
        for (Class<?> p : m.getParameterTypes()) {
            all.append(all.length() == 0 ? "" : ",").append(p.getName());
        }
        return m.getReturnType().getName() + " " + m.getName() + "(" + all + ")";
    }

    private static void insides() {
        Set<String> names = new TreeSet<>();
        for (String call : FACE) {
            names.add(call.substring(call.indexOf(' ') + 1, call.indexOf('(')));
        }
        Class<?>[] classes = FivePlayers.class.getDeclaredClasses();
        Due.is("at most twelve classes", classes.length + 1 <= 12 ? 1 : 0, 1);
        for (Class<?> c : classes) {
            Due.is(c + " is static", c.getModifiers() & Modifier.STATIC, Modifier.STATIC);
            Due.is(c + " isn't public", c.getModifiers() & (Modifier.PUBLIC | Modifier.PROTECTED), 0);
            limits(c);
            for (Method m : c.getDeclaredMethods()) {
                Due.is(m + " has no name of the face", names.contains(m.getName()) ? 1 : 0, 0);
            }
        }
        limits(FivePlayers.class);
        for (Method m : FivePlayers.class.getDeclaredMethods()) {
            if (Modifier.isPrivate(m.getModifiers())) {
                Due.is(m + " has no name of the face", names.contains(m.getName()) ? 1 : 0, 0);
            }
        }
    }

    private static void limits(Class<?> c) {
        int fields = 0;
        for (Field f : c.getDeclaredFields()) {
            if (Modifier.isStatic(f.getModifiers())) {
                Due.is(f + " is final", f.getModifiers() & Modifier.FINAL, Modifier.FINAL);
            } else {
                fields++;
            }
        }
        Due.is(c + " has at most twenty fields", fields <= 20 ? 1 : 0, 1);
        for (Method m : c.getDeclaredMethods()) {
            Due.is(m + " takes at most seven", m.getParameterCount() <= 7 ? 1 : 0, 1);
        }
    }

    /** TERMS: "Ahead of the calls .. the interface says: ---- ..": so it stands in the class, with those calls behind. */
    private static void headings(String code) {
        Matcher m = HEADING.matcher(Doc.text(Doc.TERMS));
        int calls = 0;
        while (m.find()) {
            int start = code.indexOf("    // " + m.group(2) + "\n");
            Due.is("whether the class says " + m.group(2), start >= 0 ? 1 : 0, 1);
            int end = code.indexOf("    // ----", start + 1);
            for (String call : m.group(1).split("[`, ]+")) {
                int place = code.indexOf(" " + call + "(", code.indexOf("public FivePlayers()"));
                boolean stands = call.isEmpty() || start < place && place < end;
                Due.is("whether " + call + " stands behind " + m.group(2), stands ? 1 : 0, 1);
                calls += call.isEmpty() ? 0 : 1;
            }
        }
        Due.is("calls behind headings", calls, FACE.length);
    }

    private static void words(Path file) throws IOException {
        String code = Files.readString(file).replaceAll("(?s)/\\*.*?\\*/", " ").replaceAll("//[^\n]*", " ");
        String[] words = {"throw", "throws", "try", "catch", "synchronized", "assert", "package", "equals", "hashCode",
            "toString", "Object", "Random", "System.out", "System.nanoTime", "System.currentTimeMillis", "Exception",
            "var", "while"};
        for (String word : words) {
            boolean has = code.matches("(?s).*\\b" + word.replace(".", "\\.") + "\\b.*");
            Due.is("the word " + word, has ? 1 : 0, 0);
        }
        for (String sign : new String[] {"->", "::", "@", "[][][]"}) {
            Due.is("the sign " + sign, code.contains(sign) ? 1 : 0, 0);
        }
        long imports = code.lines().filter(line -> line.startsWith("import")).count();
        Due.is("imports", imports, 1);
        Due.is("that of Arrays", code.contains("import java.util.Arrays;") ? 1 : 0, 1);
        Due.is("signs 1 to 127", code.chars().filter(c -> c < 1 || c > 127).count(), 0);
    }
}
