import java.util.ArrayList;
import java.util.Arrays;
import java.util.List;
import java.util.Random;

/** Runs of calls drawn by fixed seeds, each answered by the class and by the model of the document. */
final class ModelTest {
    private static final int RUNS = 600;
    private static final int CALLS = 512;
    private static final String[] NAMES = {
        "rock", "let", "fine", "of", "set", "turn", "as", "placeOf", "whole", "make", "reach", "faults",
        "years", "seed", "now", "on", "reachOn", "pass", "paid", "farthest", "best", "kind", "mend", "needed",
        "steepest", "whose", "bears", "meetsFor", "alone", "feed", "wipe", "court", "sheet", "write", "copy",
        "lays", "stair", "read", "image", "undo", "tear", "count", "status",
    };
    private static final String[] WORDS = {
        "fine", "shared", "alms", "hasty", "feigned", "saintly", "at", "arm", "rock", "to", "of", "frost", "meets",
        ";", ";", "0", "1", "3", "9", "10", "20", "21", "39", "40", "41", "#", "x", "00007", "99999999999",
    };

    private final Random random;
    private final StairFines x = new StairFines();
    private final Model model = new Model();
    private final List<String> calls = new ArrayList<>();

    private ModelTest(long seed) {
        random = new Random(seed);
    }

    public static void main(String[] args) {
        for (int run = 0; run < RUNS && Checks.wrongSoFar() == 0; run++) {
            new ModelTest(run).run();
        }
        Checks.end();
    }

    private void run() {
        if (random.nextInt(4) == 0) {
            goNearTheEnd();
        }
        int kinds = 1 + random.nextInt(6);
        for (int fine = random.nextInt(11); fine > 0; fine--) {
            call("fine", random.nextInt(kinds), 1 + random.nextInt(40), random.nextInt(40));
            if (random.nextBoolean()) {
                call("set", fine - 1, 3, 1 + random.nextInt(9));
            }
        }
        if (random.nextBoolean()) {
            call("let", 1, random.nextInt(21));
        }
        while (calls.size() < CALLS && Checks.wrongSoFar() == 0) {
            if (random.nextInt(12) == 0) {
                tellText();
            } else {
                String name = NAMES[random.nextInt(NAMES.length)];
                call(name, arguments(name));
            }
        }
    }

    private void goNearTheEnd() {
        for (int i = 0; i < 48; i++) {
            call("years", 200);
        }
        call("years", 195 + random.nextInt(6));
        call("years", 1 + random.nextInt(200));
    }

    /** Mostly within the range, now and then at its edges or outside. */
    private long in(int least, int most) {
        switch (random.nextInt(30)) {
            case 0: return least - 1;
            case 1: return most + 1;
            case 2: return least;
            case 3: return most;
            case 4: return random.nextInt(4) == 0 ? random.nextInt() : least;
            default: return least + random.nextInt(most - least + 1);
        }
    }

    private long[] arguments(String name) {
        switch (name) {
            case "rock": return row(in(0, 39), in(1, 9));
            case "let": return random.nextInt(3) > 0 ? row(0, random.nextInt(2)) : row(in(0, 1), in(0, random.nextBoolean() ? 9 : 20));
            case "fine": return row(in(0, 5), in(1, 40), in(0, 39));
            case "of": return row(in(0, 9), in(0, 7));
            case "set": return row(in(0, 9), in(1, 3), in(1, random.nextBoolean() ? 9 : 40));
            case "turn": case "as": return row(in(0, 9), in(0, 5));
            case "placeOf": return row(in(0, 39), in(0, 4));
            case "make": return row(in(0, 39), random.nextInt(3) > 0 ? 1 : 0, in(0, 9));
            case "years": return row(random.nextInt(3) > 0 ? in(1, 9) : in(1, 200));
            case "seed": return row(random.nextInt());
            case "now": return row(in(0, 4));
            case "on": case "reachOn": case "farthest": return row(random.nextBoolean() ? in(0, 20) : in(0, 200));
            case "paid": case "alone": return row(in(0, 9));
            case "best": case "kind": return row(in(0, 9), random.nextBoolean() ? in(1, 20) : in(1, 100));
            case "needed": return row(random.nextBoolean() ? in(1, 20) : in(1, 100));
            case "whose": return row(in(0, 39), random.nextBoolean() ? in(7, 20) : in(0, 40));
            case "bears": return row(random.nextBoolean() ? in(1, 20) : in(1, 200));
            case "meetsFor": return row(random.nextBoolean() ? in(0, 5) : in(0, 40));
            case "feed": return row(random.nextInt(), in(1, 4));
            case "sheet": return row(in(0, 3), new int[] {0, 8, 8, 16, 16, 64, 64, 32}[random.nextInt(8)], in(0, 40));
            case "write": return row(in(0, 3), in(0, random.nextBoolean() ? 4 : 39), aLong());
            case "copy": return row(in(0, 3), in(0, 20), in(0, 3), in(0, 20), in(0, 20));
            case "lays": case "read": return row(in(0, 3));
            case "stair": return row(in(0, 3), random.nextBoolean() ? in(0, 9) : in(0, 200));
            case "count": return row(in(0, 3));
            case "status": return row(in(-1, 6));
            default: return row();
        }
    }

    private long aLong() {
        return random.nextInt(3) == 0 ? random.nextLong() : random.nextInt(12) + (random.nextInt(8) == 0 ? 256 : 0);
    }

    private static long[] row(long... a) {
        return a;
    }

    private void tellText() {
        call("wipe");
        StringBuilder text = new StringBuilder();
        int items = 1 + random.nextInt(4);
        for (int i = 0; i < items; i++) {
            text.append(i == 0 ? "" : blanks(";")).append(item());
        }
        if (random.nextInt(4) == 0) {
            int at = random.nextInt(text.length());
            String other = random.nextBoolean() ? blanks(WORDS[random.nextInt(WORDS.length)]) : "" + (char) random.nextInt(256);
            text.replace(at, Math.min(text.length(), at + random.nextInt(4)), other);
        }
        if (random.nextInt(8) == 0) {
            text.setLength(random.nextInt(text.length()));
        }
        for (int i = 0; i < text.length(); i += 4) {
            int n = Math.min(4, text.length() - i);
            int bytes = random.nextInt();
            for (int k = 0; k < n; k++) {
                bytes = bytes << 8 | text.charAt(i + k);
            }
            call("feed", bytes, n);
        }
        call("court");
    }

    private String blanks(String word) {
        return " ".repeat(random.nextInt(2)) + word + " ".repeat(random.nextInt(2));
    }

    private String item() {
        switch (random.nextInt(4)) {
            case 0:
                return WORDS[random.nextInt(6)] + blanks("" + in(1, 40)) + "at" + blanks("" + in(0, 39))
                    + (random.nextBoolean() ? "arm" + blanks("" + in(1, 9)) : "");
            case 1:
                return "rock" + blanks("" + in(0, 39)) + (random.nextBoolean() ? "to" + blanks("" + in(0, 39)) : "")
                    + "of" + blanks("" + in(1, 9));
            case 2:
                return "frost" + blanks("" + in(0, 2));
            default:
                return "meets" + blanks("" + in(0, 20));
        }
    }

    /** Calls beyond those that the document promises to answer aren't made. */
    private void call(String name, long... a) {
        if (calls.size() >= CALLS) {
            return;
        }
        String told = name + Arrays.toString(a);
        calls.add(told);
        int wrong = Checks.wrongSoFar();
        Checks.due("call " + calls.size() + ", " + told, answer(name, a), model.call(name, a));
        if (Checks.wrongSoFar() != wrong) {
            System.out.println("the run: " + calls);
        }
    }

    private long answer(String name, long[] a) {
        int b = a.length > 0 ? (int) a[0] : 0;
        int c = a.length > 1 ? (int) a[1] : 0;
        int d = a.length > 2 ? (int) a[2] : 0;
        switch (name) {
            case "rock": return x.rock(b, c);
            case "let": return x.let(b, c);
            case "fine": return x.fine(b, c, d);
            case "of": return x.of(b, c);
            case "set": return x.set(b, c, d);
            case "turn": return x.turn(b, c);
            case "as": return x.as(b, c);
            case "placeOf": return x.placeOf(b, c);
            case "whole": return x.whole();
            case "make": return x.make(b, c == 1, d);
            case "reach": return x.reach();
            case "faults": return x.faults();
            case "years": return x.years(b);
            case "seed": return x.seed(b);
            case "now": return x.now(b);
            case "on": return x.on(b);
            case "reachOn": return x.reachOn(b);
            case "pass": return x.pass();
            case "paid": return x.paid(b);
            case "farthest": return x.farthest(b);
            case "best": return x.best(b, c);
            case "kind": return x.kind(b, c);
            case "mend": return x.mend();
            case "needed": return x.needed(b);
            case "steepest": return x.steepest();
            case "whose": return x.whose(b, c);
            case "bears": return x.bears(b);
            case "meetsFor": return x.meetsFor(b);
            case "alone": return x.alone(b);
            case "feed": return x.feed(b, c);
            case "wipe": return x.wipe();
            case "court": return x.court();
            case "sheet": return x.sheet(b, c, d);
            case "write": return x.write(b, c, a[2]);
            case "copy": return x.copy(b, c, d, (int) a[3], (int) a[4]);
            case "lays": return x.lays(b);
            case "stair": return x.stair(b, c);
            case "read": return x.read(b);
            case "image": return x.image();
            case "undo": return x.undo();
            case "tear": return x.tear();
            case "count": return x.count(b);
            default: return x.status(b);
        }
    }
}
