import java.util.ArrayList;
import java.util.Arrays;
import java.util.HashMap;
import java.util.List;
import java.util.Map;
import java.util.TreeMap;
import java.util.function.IntPredicate;
import java.util.regex.Matcher;
import java.util.regex.Pattern;

/**
 * The document once more, told as literally as can be and without a thought of speed:
 * questions are answered by trying all that may be. ModelTest holds the class against it.
 */
final class Model {
    private static final String[] NAMES = {"fine", "shared", "alms", "hasty", "feigned", "saintly"};
    private static final List<String> FINDINGS =
        Arrays.asList("BEYOND", "FULL", "KIND", "NONE", "STATE", "MISSING", "SIZE");

    /** What makes a call answer a finding. */
    private static final class Finding extends RuntimeException {
        private static final long serialVersionUID = 1L;
        final String name;

        Finding(String name) {
            super(name, null, false, false);
            this.name = name;
        }
    }

    private static final class Step {
        int high;
        int cutter;
        int year;
    }

    private static final class Fine {
        int kind;
        int owes;
        int place;
        int arm = 3;
        int work;
    }

    private static final class World {
        int[] rock = new int[40];
        TreeMap<Integer, Step> steps = new TreeMap<>();
        List<Fine> fines = new ArrayList<>();
        int year;
        int frost;
        int meets = 4;
        int z = 1;

        World() {
            Arrays.fill(rock, 3);
        }

        World copy() {
            World w = new World();
            w.rock = rock.clone();
            for (Map.Entry<Integer, Step> e : steps.entrySet()) {
                w.step(e.getKey(), e.getValue().high, e.getValue().cutter, e.getValue().year);
            }
            for (Fine f : fines) {
                Fine g = new Fine();
                g.kind = f.kind;
                g.owes = f.owes;
                g.place = f.place;
                g.arm = f.arm;
                g.work = f.work;
                w.fines.add(g);
            }
            w.year = year;
            w.frost = frost;
            w.meets = meets;
            w.z = z;
            return w;
        }

        void step(int place, int high, int cutter, int inYear) {
            Step s = new Step();
            s.high = high;
            s.cutter = cutter;
            s.year = inYear;
            steps.put(place, s);
        }

        int works(Fine f) {
            switch (NAMES[f.kind]) {
                case "shared": return 2 * f.arm;
                case "hasty": return f.arm + 2;
                case "feigned": return (f.arm + 2) / 2;
                case "saintly": return f.arm + (40 - steps.size()) / 10;
                default: return f.arm;
            }
        }

        int high(int kind, int place) {
            int r = rock[place];
            switch (NAMES[kind]) {
                case "alms": return 8 + r - 2;
                case "hasty": return 8 + r + 5;
                case "feigned": return 8 + r + 5 + 3;
                case "saintly": return r > 5 ? 7 : 8 + r - 2;
                default: return 8 + r;
            }
        }

        void year() {
            for (int i = 0; i < fines.size(); i++) {
                Fine f = fines.get(i);
                if (f.owes == 0 || steps.size() == 40) {
                    continue;
                }
                while (steps.containsKey(f.place)) {
                    f.place = (f.place + 1) % 40;
                    f.work = 0;
                }
                f.work += works(f);
                if (f.work >= rock[f.place]) {
                    step(f.place, high(f.kind, f.place), i, year);
                    f.owes = Math.max(0, f.owes - (NAMES[f.kind].equals("feigned") ? 2 : 1));
                    f.work = 0;
                }
            }
            if (frost > 0) {
                for (Integer place : new ArrayList<>(steps.keySet())) {
                    z = z * 1103515245 + 12345;
                    if ((z >>> 8) % 10 < frost) {
                        steps.remove(place);
                    }
                }
            }
            year++;
        }

        World on(int n) {
            World w = copy();
            for (int i = 0; i < n; i++) {
                w.year();
            }
            return w;
        }

        boolean dontMeet(int place) {
            return steps.containsKey(place) && steps.containsKey(place - 1)
                && Math.abs(steps.get(place).high - steps.get(place - 1).high) > meets;
        }

        int reach() {
            int n = 0;
            while (n < 40 && steps.containsKey(n) && !dontMeet(n)) {
                n++;
            }
            return n;
        }

        long whole() {
            long set = 0;
            for (int place : steps.keySet()) {
                set |= 1L << place;
            }
            return set;
        }
    }

    private World w = new World();
    private World image = null;
    private String tape = "";
    private final long[][] sheets = new long[4][];
    private final int[] bits = new int[4];
    private final Map<String, Integer> found = new HashMap<>();

    /** The answer to a call by its name. */
    long call(String name, long... a) {
        int[] i = new int[a.length];
        for (int k = 0; k < a.length; k++) {
            i[k] = (int) a[k];
        }
        try {
            switch (name) {
                case "on": case "reachOn": case "pass": case "paid": case "farthest": case "best": case "kind":
                case "mend": case "needed": case "steepest": case "whose": case "bears": case "meetsFor": case "alone":
                    return question(name, i);
                case "feed": case "wipe": case "court":
                    return text(name, i);
                case "sheet": case "write": case "copy": case "lays": case "stair": case "read":
                    return sheets(name, i, a);
                case "image": case "undo": case "tear": case "count": case "status":
                    return images(name, i);
                default:
                    return mountain(name, i);
            }
        } catch (Finding f) {
            found.merge(f.name, 1, Integer::sum);
            return -1000000001L - FINDINGS.indexOf(f.name);
        }
    }

    private static void unless(boolean right, String finding) {
        if (!right) {
            throw new Finding(finding);
        }
    }

    private static void range(int v, int least, int most) {
        unless(v >= least && v <= most, "BEYOND");
    }

    private Fine fineAt(int number) {
        range(number, 0, w.fines.size() - 1);
        return w.fines.get(number);
    }

    private void notAfterTheEnd(int n) {
        unless(w.year + n <= 9999, "STATE");
    }

    private long mountain(String name, int[] a) {
        long was;
        Fine f;
        switch (name) {
            case "rock":
                range(a[0], 0, 39);
                range(a[1], 1, 9);
                was = w.rock[a[0]];
                w.rock[a[0]] = a[1];
                return was;
            case "let":
                range(a[0], 0, 1);
                range(a[1], 0, a[0] == 0 ? 9 : 20);
                was = a[0] == 0 ? w.frost : w.meets;
                if (a[0] == 0) {
                    w.frost = a[1];
                } else {
                    w.meets = a[1];
                }
                return was;
            case "fine":
                range(a[0], 0, 5);
                range(a[1], 1, 40);
                range(a[2], 0, 39);
                unless(w.fines.size() < 10, "FULL");
                f = new Fine();
                f.kind = a[0];
                f.owes = a[1];
                f.place = a[2];
                w.fines.add(f);
                return w.fines.size() - 1;
            case "of":
                f = fineAt(a[0]);
                range(a[1], 0, 7);
                int cut = 0;
                for (Step s : w.steps.values()) {
                    cut += s.cutter == a[0] ? 1 : 0;
                }
                return new int[] {f.kind, f.owes, f.place, f.arm, f.work, w.works(f), w.high(f.kind, f.place), cut}[a[1]];
            case "set":
                f = fineAt(a[0]);
                range(a[1], 1, 3);
                range(a[2], a[1] == 3 ? 1 : 0, new int[] {0, 40, 39, 9}[a[1]]);
                was = new int[] {0, f.owes, f.place, f.arm}[a[1]];
                if (a[1] == 1) {
                    f.owes = a[2];
                } else if (a[1] == 2) {
                    f.place = a[2];
                    f.work = 0;
                } else {
                    f.arm = a[2];
                }
                return was;
            case "turn":
                f = fineAt(a[0]);
                range(a[1], 0, 5);
                was = f.kind;
                f.kind = a[1];
                return was;
            case "as":
                f = fineAt(a[0]);
                range(a[1], 0, 5);
                String[] above = {"fine", "shared fine", "alms fine", "hasty fine", "feigned hasty fine", "saintly alms fine"};
                unless(Arrays.asList(above[f.kind].split(" ")).contains(NAMES[a[1]]), "KIND");
                return f.owes;
            default:
                return places(name, a);
        }
    }

    private long places(String name, int[] a) {
        switch (name) {
            case "placeOf":
                range(a[0], 0, 39);
                range(a[1], 0, 4);
                if (a[1] < 2) {
                    return a[1] == 0 ? w.rock[a[0]] : w.steps.containsKey(a[0]) ? 1 : 0;
                }
                unless(w.steps.containsKey(a[0]), "STATE");
                Step s = w.steps.get(a[0]);
                return a[1] == 2 ? s.high : a[1] == 3 ? s.cutter : s.year;
            case "whole":
                return w.whole();
            case "make":
                range(a[0], 0, 39);
                fineAt(a[2]);
                if (w.steps.containsKey(a[0]) == (a[1] == 1)) {
                    return 0;
                }
                if (a[1] == 1) {
                    w.step(a[0], 10, a[2], w.year);
                } else {
                    w.steps.remove(a[0]);
                }
                return 1;
            case "reach":
                return w.reach();
            case "faults":
                long set = 0;
                for (int place = 0; place < 40; place++) {
                    set |= w.dontMeet(place) ? 1L << place : 0;
                }
                return set;
            case "years":
                range(a[0], 1, 200);
                notAfterTheEnd(a[0]);
                w = w.on(a[0]);
                return w.steps.size();
            case "seed":
                int was = w.z;
                w.z = a[0];
                return was;
            case "now":
                range(a[0], 0, 4);
                int owed = 0;
                for (Fine f : w.fines) {
                    owed += f.owes;
                }
                return new int[] {w.year, w.frost, w.meets, w.steps.size(), owed}[a[0]];
            default:
                throw new IllegalStateException(name);
        }
    }

    /** The first of 0 to 200 years on of which something holds. */
    private long firstYear(java.util.function.Predicate<World> holds) {
        for (int n = 0; n <= 200; n++) {
            if (holds.test(w.on(n))) {
                return n;
            }
        }
        throw new Finding("NONE");
    }

    private long question(String name, int[] a) {
        switch (name) {
            case "on":
                range(a[0], 0, 200);
                notAfterTheEnd(a[0]);
                return w.on(a[0]).whole();
            case "reachOn":
                range(a[0], 0, 200);
                notAfterTheEnd(a[0]);
                return w.on(a[0]).reach();
            case "pass":
                unless(w.year <= 9799, "STATE");
                return firstYear(v -> v.reach() == 40);
            case "paid":
                fineAt(a[0]);
                unless(w.year <= 9799, "STATE");
                return firstYear(v -> v.fines.get(a[0]).owes == 0);
            case "farthest":
                range(a[0], 0, 200);
                notAfterTheEnd(a[0]);
                int farthest = 0;
                for (int n = 0; n <= a[0]; n++) {
                    farthest = Math.max(farthest, w.on(n).reach());
                }
                return farthest;
            case "best":
                return best(a);
            case "kind":
                fineAt(a[0]);
                range(a[1], 1, 100);
                notAfterTheEnd(a[1]);
                int[] reaches = new int[6];
                for (int kind = 0; kind < 6; kind++) {
                    World v = w.copy();
                    v.fines.get(a[0]).kind = kind;
                    reaches[kind] = v.on(a[1]).reach();
                }
                return first(6, k -> reaches[k] == Arrays.stream(reaches).max().getAsInt());
            default:
                return sins(name, a);
        }
    }

    private static int first(int n, IntPredicate is) {
        for (int i = 0; i < n; i++) {
            if (is.test(i)) {
                return i;
            }
        }
        throw new Finding("NONE");
    }

    private long best(int[] a) {
        Fine f = fineAt(a[0]);
        range(a[1], 1, 100);
        notAfterTheEnd(a[1]);
        int[] reaches = new int[40];
        for (int place = 0; place < 40; place++) {
            World v = w.copy();
            if (place != f.place) {
                v.fines.get(a[0]).place = place;
                v.fines.get(a[0]).work = 0;
            }
            reaches[place] = v.on(a[1]).reach();
        }
        int most = Arrays.stream(reaches).max().getAsInt();
        return reaches[f.place] == most ? f.place : first(40, place -> reaches[place] == most);
    }

    private long sins(String name, int[] a) {
        switch (name) {
            case "mend":
                unless(!w.fines.isEmpty(), "NONE");
                int[] mended = new int[40];
                for (int place = 0; place < 40; place++) {
                    World v = w.copy();
                    if (!v.steps.containsKey(place)) {
                        v.step(place, 10, 0, v.year);
                    }
                    mended[place] = v.reach();
                }
                int most = Arrays.stream(mended).max().getAsInt();
                unless(most > w.reach(), "NONE");
                return first(40, place -> mended[place] == most);
            case "needed":
                range(a[0], 1, 100);
                notAfterTheEnd(a[0]);
                unless(!w.fines.isEmpty(), "NONE");
                int[] without = new int[w.fines.size()];
                for (int i = 0; i < without.length; i++) {
                    World v = w.copy();
                    v.fines.get(i).owes = 0;
                    without[i] = v.on(a[0]).reach();
                }
                int least = Arrays.stream(without).min().getAsInt();
                unless(least < w.on(a[0]).reach(), "NONE");
                return first(without.length, i -> without[i] == least);
            case "steepest":
                TreeMap<Integer, Integer> firstOf = new TreeMap<>();
                for (int place = 1; place < 40; place++) {
                    if (w.steps.containsKey(place) && w.steps.containsKey(place - 1)) {
                        firstOf.putIfAbsent(w.steps.get(place).high - w.steps.get(place - 1).high, place);
                    }
                }
                unless(!firstOf.isEmpty(), "NONE");
                return firstOf.lastEntry().getValue();
            case "whose":
                range(a[0], 0, 39);
                range(a[1], 0, 40);
                int set = 0;
                for (int i = 0; i < w.fines.size(); i++) {
                    set |= w.high(w.fines.get(i).kind, a[0]) == a[1] ? 1 << i : 0;
                }
                return set;
            case "bears":
                range(a[0], 1, 200);
                notAfterTheEnd(a[0]);
                return 9 - first(10, i -> {
                    World v = w.copy();
                    v.frost = 9 - i;
                    return v.on(a[0]).reach() == 40;
                });
            case "meetsFor":
                range(a[0], 0, 40);
                return first(21, meets -> {
                    World v = w.copy();
                    v.meets = meets;
                    return v.reach() >= a[0];
                });
            case "alone":
                Fine f = fineAt(a[0]);
                int sum = 0;
                for (int place = 0; place < 40; place++) {
                    sum += w.steps.containsKey(place) ? 0 : (int) Math.ceil((double) w.rock[place] / w.works(f));
                }
                return sum;
            default:
                throw new IllegalStateException(name);
        }
    }

    private long text(String name, int[] a) {
        switch (name) {
            case "feed":
                range(a[1], 1, 4);
                unless(tape.length() + a[1] <= 120, "FULL");
                String all = "" + (char) (a[0] >>> 24) + (char) (a[0] >>> 16 & 255)
                    + (char) (a[0] >>> 8 & 255) + (char) (a[0] & 255);
                tape += all.substring(4 - a[1]);
                return tape.length();
            case "wipe":
                int had = tape.length();
                tape = "";
                return had;
            default:
                String text = tape;
                tape = "";
                return court(text);
        }
    }

    /** By states of a machine: what may stand next, item by item. */
    private long court(String text) {
        World v = w.copy();
        Matcher m = Pattern.compile("[a-z]+|[0-9]+|;|[^ ]", Pattern.DOTALL).matcher(text);
        List<String> words = new ArrayList<>();
        List<Integer> starts = new ArrayList<>();
        while (m.find()) {
            words.add(m.group());
            starts.add(m.start());
        }
        starts.add(text.length());
        int i = 0;
        int items = 0;
        while (true) {
            int[] end = {i};
            if (!item(v, words, end)) {
                return -1 - starts.get(end[0]);
            }
            items++;
            i = end[0];
            if (i == words.size()) {
                w = v;
                return items;
            }
            if (!words.get(i).equals(";")) {
                return -1 - starts.get(i);
            }
            i++;
        }
    }

    private static boolean item(World v, List<String> words, int[] i) {
        String head = i[0] < words.size() ? words.get(i[0]) : "";
        int kind = Arrays.asList(NAMES).indexOf(head);
        if (kind >= 0) {
            if (v.fines.size() == 10) {
                return false;
            }
            i[0]++;
            Fine f = new Fine();
            f.kind = kind;
            f.owes = number(words, i, 1, 40);
            if (f.owes < 0 || !word(words, i, "at")) {
                return false;
            }
            f.place = number(words, i, 0, 39);
            if (f.place < 0) {
                return false;
            }
            if (word(words, i, "arm")) {
                f.arm = number(words, i, 1, 9);
            }
            v.fines.add(f);
            return f.arm > 0;
        }
        if (word(words, i, "rock")) {
            int first = number(words, i, 0, 39);
            if (first < 0) {
                return false;
            }
            int last = word(words, i, "to") ? number(words, i, first, 39) : first;
            if (last < 0 || !word(words, i, "of")) {
                return false;
            }
            int r = number(words, i, 1, 9);
            Arrays.fill(v.rock, first, last + 1, r);
            return r > 0;
        }
        if (word(words, i, "frost")) {
            v.frost = number(words, i, 0, 9);
            return v.frost >= 0;
        }
        if (word(words, i, "meets")) {
            v.meets = number(words, i, 0, 20);
            return v.meets >= 0;
        }
        return false;
    }

    private static boolean word(List<String> words, int[] i, String word) {
        if (i[0] < words.size() && words.get(i[0]).equals(word)) {
            i[0]++;
            return true;
        }
        return false;
    }

    /** -1 where no such number stands. */
    private static int number(List<String> words, int[] i, int least, int most) {
        if (i[0] < words.size() && words.get(i[0]).matches("[0-9]+")) {
            java.math.BigInteger v = new java.math.BigInteger(words.get(i[0]));
            if (v.bitLength() < 15 && v.intValue() >= least && v.intValue() <= most) {
                i[0]++;
                return v.intValue();
            }
        }
        return -1;
    }

    private void present(int s) {
        unless(sheets[s] != null, "MISSING");
    }

    private long sheets(String name, int[] a, long[] longs) {
        range(a[0], 0, 3);
        long[] s = sheets[a[0]];
        switch (name) {
            case "sheet":
                unless(Arrays.asList(0, 8, 16, 64).contains(a[1]), "BEYOND");
                unless(a[2] >= 0, "SIZE");
                unless(a[2] <= 40, "BEYOND");
                sheets[a[0]] = a[1] == 0 ? null : new long[a[2]];
                bits[a[0]] = a[1];
                return a[1] == 0 ? 0 : a[2];
            case "write":
                present(a[0]);
                range(a[1], 0, s.length - 1);
                long was = s[a[1]];
                s[a[1]] = cut(longs[2], bits[a[0]]);
                return was;
            case "copy":
                range(a[2], 0, 3);
                present(a[0]);
                present(a[2]);
                long[] t = sheets[a[2]];
                unless(bits[a[0]] == bits[a[2]], "KIND");
                unless(a[1] >= 0 && a[3] >= 0 && a[4] >= 0, "BEYOND");
                unless((long) a[1] + a[4] <= s.length && (long) a[3] + a[4] <= t.length, "BEYOND");
                long[] before = s.clone();
                for (int i = 0; i < a[4]; i++) {
                    t[a[3] + i] = before[a[1] + i];
                }
                return a[4];
            case "lays":
                present(a[0]);
                int came = 0;
                for (int i = 0; i < s.length; i++) {
                    if (s[i] > 0 && s[i] < 10) {
                        w.rock[i] = (int) s[i];
                        came++;
                    }
                }
                return came;
            case "stair":
                present(a[0]);
                range(a[1], 0, 200);
                notAfterTheEnd(a[1]);
                World then = w.on(a[1]);
                for (int i = 0; i < s.length; i++) {
                    s[i] = then.steps.containsKey(i) ? then.steps.get(i).high : 0;
                }
                return s.length;
            default:
                present(a[0]);
                unless(w.year <= 9959, "STATE");
                for (int i = 0; i < s.length; i++) {
                    if (s[i] != w.on(i).reach()) {
                        return 1 + i;
                    }
                }
                return 0;
        }
    }

    private static long cut(long v, int bits) {
        return v << (64 - bits) >> (64 - bits);
    }

    private long images(String name, int[] a) {
        switch (name) {
            case "image":
                image = w.copy();
                return 1;
            case "undo":
                unless(image != null, "NONE");
                w = image.copy();
                return w.fines.size();
            case "tear":
                boolean was = image != null;
                image = null;
                return was ? 1 : 0;
            case "count":
                range(a[0], 0, 3);
                int high = 0;
                for (Step s : w.steps.values()) {
                    high += s.high;
                }
                return new int[] {w.fines.size(), tape.length(), high, w.z}[a[0]];
            default:
                range(a[0], -1, 6);
                int all = 0;
                for (int n : found.values()) {
                    all += n;
                }
                return a[0] == -1 ? all : found.getOrDefault(FINDINGS.get(a[0]), 0);
        }
    }
}
