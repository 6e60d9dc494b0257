import java.util.Random;

/** Calls by their names: arguments drawn for them, and what the class answers. */
final class Calls {
    static final String[] NAMES = {
        "rock", "let", "fine", "of", "set", "turn", "as", "placeOf", "whole", "make", "reach", "faults",
        "years", "seed", "now", "on", "reachOn", "pass", "paid", "farthest", "best", "kind", "mend", "needed",
        "steepest", "whose", "bears", "meetsFor", "alone", "feed", "wipe", "court", "sheet", "write", "copy",
        "lays", "stair", "read", "image", "undo", "tear", "count", "status",
    };

    private final Random random;

    Calls(Random random) {
        this.random = random;
    }

    /** Mostly within the range, now and then at its edges or outside. */
    long in(int least, int most) {
        switch (random.nextInt(30)) {
            case 0: return least - 1;
            case 1: return most + 1;
            case 2: return least;
            case 3: return most;
            case 4: return random.nextInt(4) == 0 ? random.nextInt() : least;
            default: return least + random.nextInt(most - least + 1);
        }
    }

    /** Arguments for a call; a boolean is 1 or 0. */
    long[] arguments(String name) {
        switch (name) {
            case "rock": return row(in(0, 39), in(1, 9));
            case "let": return random.nextInt(3) > 0 ? row(0, random.nextInt(2)) : row(in(0, 1), in(0, random.nextBoolean() ? 9 : 20));
            case "fine": return row(in(0, 5), in(1, 40), in(0, 39));
            case "of": return row(in(0, 9), in(0, 7));
            case "set": return row(in(0, 9), in(1, 3), in(1, random.nextBoolean() ? 9 : 40));
            case "turn": case "as": return row(in(0, 9), in(0, 5));
            case "placeOf": return row(in(0, 39), in(0, 4));
            case "make": return row(in(0, 39), random.nextInt(3) > 0 ? 1 : 0, in(0, 9));
            case "years": return row(random.nextInt(3) > 0 ? in(1, 9) : in(1, 200));
            case "seed": return row(random.nextInt());
            case "now": return row(in(0, 4));
            case "on": case "reachOn": case "farthest": return row(random.nextBoolean() ? in(0, 20) : in(0, 200));
            case "paid": case "alone": return row(in(0, 9));
            case "best": case "kind": return row(in(0, 9), random.nextBoolean() ? in(1, 20) : in(1, 100));
            case "needed": return row(random.nextBoolean() ? in(1, 20) : in(1, 100));
            case "whose": return row(in(0, 39), random.nextBoolean() ? in(7, 20) : in(0, 40));
            case "bears": return row(random.nextBoolean() ? in(1, 20) : in(1, 200));
            case "meetsFor": return row(random.nextBoolean() ? in(0, 5) : in(0, 40));
            case "feed": return row(random.nextInt(), in(1, 4));
            case "sheet": return row(in(0, 3), new int[] {0, 8, 8, 16, 16, 64, 64, 32}[random.nextInt(8)], in(0, 40));
            case "write": return row(in(0, 3), in(0, random.nextBoolean() ? 4 : 39), aLong());
            case "copy": return row(in(0, 3), in(0, 20), in(0, 3), in(0, 20), in(0, 20));
            case "lays": case "read": return row(in(0, 3));
            case "stair": return row(in(0, 3), random.nextBoolean() ? in(0, 9) : in(0, 200));
            case "count": return row(in(0, 3));
            case "status": return row(in(-1, 6));
            default: return row();
        }
    }

    private long aLong() {
        return random.nextInt(3) == 0 ? random.nextLong() : random.nextInt(12) + (random.nextInt(8) == 0 ? 256 : 0);
    }

    private static long[] row(long... a) {
        return a;
    }

    static long answer(StairFines x, String name, long[] a) {
        int b = a.length > 0 ? (int) a[0] : 0;
        int c = a.length > 1 ? (int) a[1] : 0;
        int d = a.length > 2 ? (int) a[2] : 0;
        switch (name) {
            case "rock": return x.rock(b, c);
            case "let": return x.let(b, c);
            case "fine": return x.fine(b, c, d);
            case "of": return x.of(b, c);
            case "set": return x.set(b, c, d);
            case "turn": return x.turn(b, c);
            case "as": return x.as(b, c);
            case "placeOf": return x.placeOf(b, c);
            case "whole": return x.whole();
            case "make": return x.make(b, c == 1, d);
            case "reach": return x.reach();
            case "faults": return x.faults();
            case "years": return x.years(b);
            case "seed": return x.seed(b);
            case "now": return x.now(b);
            case "on": return x.on(b);
            case "reachOn": return x.reachOn(b);
            case "pass": return x.pass();
            case "paid": return x.paid(b);
            case "farthest": return x.farthest(b);
            case "best": return x.best(b, c);
            case "kind": return x.kind(b, c);
            case "mend": return x.mend();
            case "needed": return x.needed(b);
            case "steepest": return x.steepest();
            case "whose": return x.whose(b, c);
            case "bears": return x.bears(b);
            case "meetsFor": return x.meetsFor(b);
            case "alone": return x.alone(b);
            case "feed": return x.feed(b, c);
            case "wipe": return x.wipe();
            case "court": return x.court();
            case "sheet": return x.sheet(b, c, d);
            case "write": return x.write(b, c, a[2]);
            case "copy": return x.copy(b, c, d, (int) a[3], (int) a[4]);
            case "lays": return x.lays(b);
            case "stair": return x.stair(b, c);
            case "read": return x.read(b);
            case "image": return x.image();
            case "undo": return x.undo();
            case "tear": return x.tear();
            case "count": return x.count(b);
            default: return x.status(b);
        }
    }
}
