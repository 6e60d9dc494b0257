import java.util.ArrayList;
import java.util.Arrays;
import java.util.List;
import java.util.Random;

/** Runs of calls drawn by fixed seeds, each answered by the class and by the model of the document. */
final class ModelTest {
    private static final int RUNS = 600;
    private static final int CALLS = 512;
    private static final String[] WORDS = {
        "fine", "shared", "alms", "hasty", "feigned", "saintly", "at", "arm", "rock", "to", "of", "frost", "meets",
        ";", ";", "0", "1", "3", "9", "10", "20", "21", "39", "40", "41", "#", "x", "00007", "99999999999",
    };

    private final Random random;
    private final Calls draws;
    private final StairFines x = new StairFines();
    private final Model model = new Model();
    private final List<String> calls = new ArrayList<>();

    private ModelTest(long seed) {
        random = new Random(seed);
        draws = new Calls(random);
    }

    public static void main(String[] args) {
        for (int run = 0; run < RUNS && Checks.wrongSoFar() == 0; run++) {
            new ModelTest(run).run();
        }
        Checks.end();
    }

    private void run() {
        if (random.nextInt(4) == 0) {
            goNearTheEnd();
        }
        int kinds = 1 + random.nextInt(6);
        for (int fine = random.nextInt(11); fine > 0; fine--) {
            call("fine", random.nextInt(kinds), 1 + random.nextInt(40), random.nextInt(40));
            if (random.nextBoolean()) {
                call("set", fine - 1, 3, 1 + random.nextInt(9));
            }
        }
        if (random.nextBoolean()) {
            call("let", 1, random.nextInt(21));
        }
        while (calls.size() < CALLS && Checks.wrongSoFar() == 0) {
            if (random.nextInt(12) == 0) {
                tellText();
            } else {
                String name = Calls.NAMES[random.nextInt(Calls.NAMES.length)];
                call(name, draws.arguments(name));
            }
        }
    }

    private void goNearTheEnd() {
        for (int i = 0; i < 48; i++) {
            call("years", 200);
        }
        call("years", 195 + random.nextInt(6));
        call("years", 1 + random.nextInt(200));
    }

    private void tellText() {
        call("wipe");
        StringBuilder text = new StringBuilder();
        int items = 1 + random.nextInt(4);
        for (int i = 0; i < items; i++) {
            text.append(i == 0 ? "" : blanks(";")).append(item());
        }
        if (random.nextInt(4) == 0) {
            int at = random.nextInt(text.length());
            String other = random.nextBoolean() ? blanks(WORDS[random.nextInt(WORDS.length)]) : "" + (char) random.nextInt(256);
            text.replace(at, Math.min(text.length(), at + random.nextInt(4)), other);
        }
        if (random.nextInt(8) == 0) {
            text.setLength(random.nextInt(text.length()));
        }
        for (int i = 0; i < text.length(); i += 4) {
            int n = Math.min(4, text.length() - i);
            int bytes = random.nextInt();
            for (int k = 0; k < n; k++) {
                bytes = bytes << 8 | text.charAt(i + k);
            }
            call("feed", bytes, n);
        }
        call("court");
    }

    private String blanks(String word) {
        return " ".repeat(random.nextInt(2)) + word + " ".repeat(random.nextInt(2));
    }

    private String item() {
        switch (random.nextInt(4)) {
            case 0:
                return WORDS[random.nextInt(6)] + blanks("" + draws.in(1, 40)) + "at" + blanks("" + draws.in(0, 39))
                    + (random.nextBoolean() ? "arm" + blanks("" + draws.in(1, 9)) : "");
            case 1:
                return "rock" + blanks("" + draws.in(0, 39)) + (random.nextBoolean() ? "to" + blanks("" + draws.in(0, 39)) : "")
                    + "of" + blanks("" + draws.in(1, 9));
            case 2:
                return "frost" + blanks("" + draws.in(0, 2));
            default:
                return "meets" + blanks("" + draws.in(0, 20));
        }
    }

    /** Calls beyond those that the document promises to answer aren't made. */
    private void call(String name, long... a) {
        if (calls.size() >= CALLS) {
            return;
        }
        String told = name + Arrays.toString(a);
        calls.add(told);
        int wrong = Checks.wrongSoFar();
        Checks.due("call " + calls.size() + ", " + told, Calls.answer(x, name, a), model.call(name, a));
        if (Checks.wrongSoFar() != wrong) {
            System.out.println("the run: " + calls);
        }
    }
}
