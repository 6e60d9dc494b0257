import java.lang.reflect.Constructor;
import java.lang.reflect.Field;
import java.lang.reflect.Method;
import java.lang.reflect.Modifier;
import java.nio.charset.StandardCharsets;
import java.nio.file.Files;
import java.nio.file.Path;
import java.util.ArrayList;
import java.util.Arrays;
import java.util.Collections;
import java.util.List;
import java.util.TreeSet;

/** The class has the document's face and nothing more, and keeps to what can be seen of LANGUAGE.md. */
final class FaceTest {
    private static final String[] FACE = {
        "int rock(int,int)", "int let(int,int)", "int fine(int,int,int)", "int of(int,int)",
        "int set(int,int,int)", "int turn(int,int)", "int as(int,int)", "int placeOf(int,int)",
        "long whole()", "int make(int,boolean,int)", "int reach()", "long faults()", "int years(int)",
        "int seed(int)", "int now(int)", "long on(int)", "int reachOn(int)", "int pass()", "int paid(int)",
        "int farthest(int)", "int best(int,int)", "int kind(int,int)", "int mend()", "int needed(int)",
        "int steepest()", "int whose(int,int)", "int bears(int)", "int meetsFor(int)", "int alone(int)",
        "int feed(int,int)", "int wipe()", "int court()", "int sheet(int,int,int)",
        "long write(int,int,long)", "int copy(int,int,int,int,int)", "int lays(int)", "int stair(int,int)",
        "int read(int)", "int image()", "int undo()", "int tear()", "int count(int)", "int status(int)",
    };
    private static final String[] FORBIDDEN = {
        "throw", "try", "catch", "synchronized", "assert", "->", "::", "Exact", "hashCode", "toString()",
        "Random", "currentTimeMillis", "nanoTime", "Thread", "@",
    };

    private FaceTest() {
    }

    public static void main(String[] args) throws Exception {
        face();
        insides();
        source();
        lengths();
        Checks.end();
    }

    private static void face() {
        Class<?> c = StairFines.class;
        Checks.due("public final", c.getModifiers() & (Modifier.PUBLIC | Modifier.FINAL), Modifier.PUBLIC | Modifier.FINAL);
        List<String> methods = new ArrayList<>();
        for (Method m : c.getDeclaredMethods()) {
            if (!Modifier.isPrivate(m.getModifiers())) {
                StringBuilder s = new StringBuilder(m.getReturnType().getName()).append(' ').append(m.getName()).append('(');
                for (int i = 0; i < m.getParameterCount(); i++) {
                    s.append(i == 0 ? "" : ",").append(m.getParameterTypes()[i].getName());
                }
                methods.add(s.append(')').toString());
                Checks.due(m.getName() + " is public alone", m.getModifiers(), Modifier.PUBLIC);
            }
        }
        List<String> due = new ArrayList<>(Arrays.asList(FACE));
        Collections.sort(methods);
        Collections.sort(due);
        Checks.due("the face " + methods, methods.equals(due) ? 1 : 0, 1);
        Checks.due("constructors", c.getDeclaredConstructors().length, 1);
        for (Constructor<?> k : c.getDeclaredConstructors()) {
            Checks.due("constructor", k.getModifiers() * 10 + k.getParameterCount(), Modifier.PUBLIC * 10);
        }
        for (Field f : c.getDeclaredFields()) {
            Checks.due("field " + f.getName() + " is private", Modifier.isPrivate(f.getModifiers()) ? 1 : 0, 1);
        }
    }

    private static void insides() {
        List<Class<?>> all = new ArrayList<>(Arrays.asList(StairFines.class.getDeclaredClasses()));
        Checks.due("classes inside are few", all.size() <= 11 ? 1 : 0, 1);
        TreeSet<String> face = new TreeSet<>();
        for (Method m : StairFines.class.getDeclaredMethods()) {
            if (Modifier.isPublic(m.getModifiers())) {
                face.add(m.getName());
            }
        }
        for (Class<?> c : all) {
            Checks.due(c.getName() + " is static", Modifier.isStatic(c.getModifiers()) ? 1 : 0, 1);
        }
        Checks.due("no class without a name", StairFines.class.getResource("StairFines$1.class") == null ? 1 : 0, 1);
        all.add(StairFines.class);
        for (Class<?> c : all) {
            int fields = 0;
            for (Field f : c.getDeclaredFields()) {
                fields += Modifier.isStatic(f.getModifiers()) ? 0 : 1;
                if (Modifier.isStatic(f.getModifiers())) {
                    Checks.due("static " + f.getName() + " is final", Modifier.isFinal(f.getModifiers()) ? 1 : 0, 1);
                    boolean isNumber = f.getType() == int.class || f.getType() == long.class;
                    Checks.due("static " + f.getName() + " is a number", isNumber ? 1 : 0, 1);
                }
            }
            Checks.due(c.getName() + " has few fields", fields <= 20 ? 1 : 0, 1);
            for (Method m : c.getDeclaredMethods()) {
                boolean borrowed = !Modifier.isPublic(m.getModifiers()) && face.contains(m.getName());
                Checks.due(c.getName() + "." + m.getName() + " borrows a name", borrowed ? 1 : 0, 0);
                Checks.due(m.getName() + " has few parameters", m.getParameterCount() <= 7 ? 1 : 0, 1);
            }
        }
    }

    private static void source() throws Exception {
        String s = Files.readString(Path.of("src/main/java/StairFines.java"), StandardCharsets.US_ASCII);
        String code = s.replaceAll("(?s)/\\*.*?\\*/", "").replaceAll("//[^\n]*", "");
        for (String word : FORBIDDEN) {
            boolean isWord = Character.isLetter(word.charAt(0)) && !word.endsWith(")") && !word.equals("Exact");
            String pattern = ".*" + (isWord ? "\\b" + word + "\\b" : java.util.regex.Pattern.quote(word)) + ".*";
            Checks.due("the source has " + word, code.matches("(?s)" + pattern) ? 1 : 0, 0);
        }
        int imports = 0;
        for (String line : s.split("\n")) {
            if (line.startsWith("import ")) {
                imports++;
                Checks.due(line, line.equals("import java.util.Arrays;") ? 1 : 0, 1);
            }
        }
        Checks.due("imports", imports, 1);
        Checks.due("package lines", s.startsWith("package") ? 1 : 0, 0);
    }

    /** Methods stay short; each ends with a brace that stands as far in as the line in which it begins. */
    private static void lengths() throws Exception {
        List<String> lines = Files.readAllLines(Path.of("src/main/java/StairFines.java"), StandardCharsets.US_ASCII);
        int methods = 0;
        for (int i = 0; i < lines.size(); i++) {
            String line = lines.get(i);
            if (!line.matches(" {4,8}[a-zA-Z][^=.;]*\\) \\{") || line.matches(" *(if|for|while|switch) .*")) {
                continue;
            }
            methods++;
            String end = line.substring(0, line.length() - line.stripLeading().length()) + "}";
            int last = i;
            while (last < lines.size() && !lines.get(last).equals(end)) {
                last++;
            }
            Checks.due("lines of" + line, last - i < 60 ? 1 : 0, 1);
        }
        int due = 0;
        List<Class<?>> all = new ArrayList<>(Arrays.asList(StairFines.class.getDeclaredClasses()));
        all.add(StairFines.class);
        for (Class<?> c : all) {
            due += c.getDeclaredMethods().length;
        }
        Checks.due("methods and constructors looked at, of " + due + " methods", methods >= due ? 1 : 0, 1);
    }
}
