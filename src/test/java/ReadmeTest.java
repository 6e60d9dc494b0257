import java.nio.charset.StandardCharsets;
import java.nio.file.Files;
import java.nio.file.Path;
import java.util.Arrays;
import java.util.HashMap;
import java.util.List;
import java.util.Map;
import java.util.Random;
import java.util.TreeSet;
import java.util.regex.Matcher;
import java.util.regex.Pattern;

/** What README.md says is so: its examples, its tables of calls, and the findings. */
final class ReadmeTest {
    private static final List<String> FINDINGS =
        Arrays.asList("BEYOND", "FULL", "KIND", "NONE", "STATE", "MISSING", "SIZE");
    private static final Pattern EXAMPLE = Pattern.compile("x\\.(\\w+)\\(([^)]*)\\); *// (-?\\d+): .+");
    private static final Pattern CALL = Pattern.compile("\\| `(\\w+)\\(([^)]*)\\)` \\| [^|]+ \\| ([A-Z, ]*)\\|");
    private static final Pattern FINDING = Pattern.compile("\\| (-\\d+) \\| ([A-Z]+) \\| [^|]+ \\|");
    private static final Pattern OF_STATUS = Pattern.compile("\\b(\\d) ([A-Z]+)");
    private static final int RUNS = 400;
    private static final int CALLS_OF_A_RUN = 130;

    private ReadmeTest() {
    }

    public static void main(String[] args) throws Exception {
        List<String> lines = Files.readAllLines(Path.of("README.md"), StandardCharsets.US_ASCII);
        examples(lines);
        findings(lines);
        calls(lines);
        Checks.end();
    }

    /** Each line in a block of Java is a new object, or a call with its answer behind it. */
    private static void examples(List<String> lines) {
        StairFines x = null;
        boolean isJava = false;
        int told = 0;
        for (String line : lines) {
            if (line.startsWith("```")) {
                isJava = line.equals("```java");
                x = null;
            } else if (isJava && line.equals("StairFines x = new StairFines();")) {
                x = new StairFines();
            } else if (isJava) {
                Matcher m = EXAMPLE.matcher(line);
                Checks.due("an example: " + line, m.matches() && x != null ? 1 : 0, 1);
                if (m.matches() && x != null) {
                    told++;
                    Checks.due(line, Calls.answer(x, m.group(1), numbers(m.group(2))), Long.parseLong(m.group(3)));
                }
            }
        }
        Checks.due("there are examples", told > 0 ? 1 : 0, 1);
    }

    private static long[] numbers(String arguments) {
        if (arguments.isEmpty()) {
            return new long[0];
        }
        String[] words = arguments.split(", ");
        long[] numbers = new long[words.length];
        for (int i = 0; i < words.length; i++) {
            boolean isFlag = words[i].equals("true") || words[i].equals("false");
            numbers[i] = isFlag ? (words[i].equals("true") ? 1 : 0) : Long.decode(words[i]);
        }
        return numbers;
    }

    /** The seven findings by their numbers, and what status() counts them as. */
    private static void findings(List<String> lines) {
        int told = 0;
        int ofStatus = 0;
        for (String line : lines) {
            Matcher m = FINDING.matcher(line);
            if (m.matches()) {
                told++;
                Checks.due("the finding " + m.group(2), Long.parseLong(m.group(1)), -1000000001L - FINDINGS.indexOf(m.group(2)));
            }
            Matcher which = OF_STATUS.matcher(line);
            while (line.startsWith("| `status(") && which.find()) {
                ofStatus++;
                Checks.due("status() of " + which.group(2), Long.parseLong(which.group(1)), FINDINGS.indexOf(which.group(2)));
            }
        }
        Checks.due("findings told", told, FINDINGS.size());
        Checks.due("findings told of status()", ofStatus, FINDINGS.size());
    }

    /** Each call of the face is told once, with as many arguments as it takes and the findings that it answers. */
    private static void calls(List<String> lines) {
        Map<String, TreeSet<String>> seen = findingsSeen();
        Map<String, Integer> told = new HashMap<>();
        for (String line : lines) {
            Matcher m = CALL.matcher(line);
            if (m.matches()) {
                String name = m.group(1);
                told.merge(name, 1, Integer::sum);
                int arguments = m.group(2).isEmpty() ? 0 : m.group(2).split(", ").length;
                Checks.due("arguments of " + name, arguments, argumentsOf(name));
                TreeSet<String> findings = new TreeSet<>(Arrays.asList(m.group(3).trim().split(", ")));
                findings.remove("");
                Checks.due("of " + name + " is told " + findings + ", seen was " + seen.get(name),
                    findings.equals(seen.get(name)) ? 1 : 0, 1);
            } else {
                Checks.due("a row that is none: " + line, line.startsWith("| `") ? 1 : 0, 0);
            }
        }
        for (String name : Calls.NAMES) {
            Checks.due("how often " + name + " is told", told.getOrDefault(name, 0), 1);
        }
        Checks.due("calls told", told.size(), Calls.NAMES.length);
    }

    private static int argumentsOf(String name) {
        for (java.lang.reflect.Method m : StairFines.class.getMethods()) {
            if (m.getName().equals(name)) {
                return m.getParameterCount();
            }
        }
        return -1;
    }

    /** The findings that each call answers in drawn runs; status() tells them from numbers that are as low. */
    private static Map<String, TreeSet<String>> findingsSeen() {
        Map<String, TreeSet<String>> seen = new HashMap<>();
        for (String name : Calls.NAMES) {
            seen.put(name, new TreeSet<>());
        }
        for (int run = 0; run < RUNS; run++) {
            Random random = new Random(run);
            Calls draws = new Calls(random);
            StairFines x = new StairFines();
            Checks.goTo(x, run % 4 == 0 ? 9700 + random.nextInt(300) : 0);
            for (int fine = random.nextInt(11); fine > 0; fine--) {
                x.fine(random.nextInt(6), 1 + random.nextInt(40), random.nextInt(40));
            }
            Checks.feed(x, " ".repeat(random.nextInt(121)));
            for (int i = 0; i < CALLS_OF_A_RUN; i++) {
                String name = Calls.NAMES[random.nextInt(Calls.NAMES.length)];
                int before = x.status(-1);
                long answer = Calls.answer(x, name, draws.arguments(name));
                if (x.status(-1) > before) {
                    seen.get(name).add(FINDINGS.get((int) (-1000000001L - answer)));
                }
            }
        }
        return seen;
    }
}
