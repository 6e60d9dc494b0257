import java.util.Arrays;
import java.util.TreeMap;
import java.util.TreeSet;

/**
 * What the tests of boundary cases share. Each boundary case is a test of its own: it bears its promise's
 * number and a name, and has new objects, none of which is asked for more than the 512 calls that are promised.
 */
class Edges extends Promises {
    /** Makes an object in a state; asked twice it makes two that are alike. */
    interface Maker {
        StairFines make();
    }

    interface Body {
        void look(StairFines x);
    }

    interface Call {
        long ask(StairFines x);
    }

    interface CallWith {
        long ask(StairFines x, int v);
    }

    interface Look {
        String tell(StairFines x);
    }

    static final long ALL = 1099511627775L;
    private static final int PROMISES = 44;
    private static final int[] TESTS = new int[PROMISES + 1];
    private static String current = "";

    // ---- tests

    static void test(int promise, String name, Maker maker, Body body) {
        TESTS[promise]++;
        current = "promise " + promise + ", " + name + ": ";
        try {
            body.look(maker.make());
        } catch (RuntimeException e) {
            due("no exception, but " + e, 1, 0);
        }
    }

    static void test(int promise, String name, Body body) {
        test(promise, name, StairFines::new, body);
    }

    /** A call that is no finding. */
    static void answers(int promise, String name, long want, Maker maker, Call call) {
        test(promise, name, maker, x -> {
            int findings = x.status(-1);
            due("the answer", call.ask(x), want);
            due("findings", x.status(-1), findings);
        });
    }

    /** A call answers a finding, counts it, and changes nothing else. */
    static void refused(int promise, String name, long finding, Maker maker, Call call) {
        test(promise, name, maker, x -> {
            int[] counts = statuses(x);
            due("the answer", call.ask(x), finding);
            counts[0]++;
            counts[(int) (Checks.BEYOND - finding) + 1]++;
            due("it alone is counted", Arrays.equals(statuses(x), counts) ? 1 : 0, 1);
            unchanged(maker, call);
        });
    }

    /** A question that is answered changes nothing. */
    static void changesNothing(int promise, Maker maker, Call call) {
        test(promise, "nothing changes", maker, x -> {
            call.ask(x);
            unchanged(maker, call);
        });
    }

    /** What a call isn't said to change is as it was: each look is held against an object that wasn't asked. */
    static void leaves(int promise, String name, Maker maker, Call call, Look... looks) {
        test(promise, name, maker, x -> {
            int findings = x.status(-1);
            call.ask(x);
            due("no finding", x.status(-1), findings);
            for (int i = 0; i < looks.length; i++) {
                unchanged("look " + i, looks[i], maker, call);
            }
        });
    }

    /** Of all that is told of the mountain just that changes which is named: see told(). */
    static void changesJust(int promise, String name, Maker maker, Call call, String... names) {
        test(promise, name + " and no more", maker, x -> {
            TreeMap<String, Integer> was = told(maker.make());
            call.ask(x);
            TreeMap<String, Integer> is = told(x);
            TreeSet<String> changed = new TreeSet<>(was.keySet());
            changed.addAll(is.keySet());
            changed.removeIf(key -> was.containsKey(key) && was.get(key).equals(is.get(key)));
            due("changed is " + changed, changed.equals(new TreeSet<>(Arrays.asList(names))) ? 1 : 0, 1);
        });
    }

    /** The first and the last value that a range takes, and those beyond at either end. */
    static void range(int promise, String name, int least, int most, Maker maker, CallWith call) {
        for (int v : new int[] {least, most}) {
            test(promise, name + " " + v + " is taken", maker, x -> {
                int findings = x.status(-1);
                due("no finding, but " + call.ask(x, v), x.status(-1), findings);
            });
        }
        for (int v : new int[] {least - 1, most + 1, MIN, MAX}) {
            refused(promise, name + " " + v + " is BEYOND", BEYOND, maker, x -> call.ask(x, v));
        }
    }

    /** A call that asks for a FINE: where there are none, six, ten, and for those that there could be but aren't. */
    static void numberOfFine(int promise, String name, Maker six, Maker ten, CallWith call) {
        range(promise, name + "of six FINES number", 0, 5, six, call);
        for (int v : new int[] {7, 9, 10}) {
            refused(promise, name + "of six FINES number " + v + " is BEYOND", BEYOND, six, x -> call.ask(x, v));
        }
        range(promise, name + "of ten FINES number", 0, 9, ten, call);
        for (int v : new int[] {0, 9}) {
            refused(promise, name + "of no FINES number " + v + " is BEYOND", BEYOND, StairFines::new, x -> call.ask(x, v));
        }
    }

    /** Ends the tests of some promises, each of which must have had one. */
    static void end(int first, int last) {
        current = "";
        for (int promise = first; promise <= last; promise++) {
            due("promise " + promise + " has a test", TESTS[promise] > 0 ? 1 : 0, 1);
        }
        Checks.end();
    }

    static void due(String what, long got, long want) {
        Checks.due(current + what, got, want);
    }

    /** All that is seen is what was seen. */
    static void same(String what, StairFines x, String was) {
        due(what, Checks.seen(x).equals(was) ? 1 : 0, 1);
    }

    /** Each look, which may change what it looks at, has an object that was asked and one that wasn't. */
    private static void unchanged(Maker maker, Call call) {
        unchanged("what is seen", Checks::seen, maker, call);
        unchanged("the tape", Edges::tape, maker, call);
        unchanged("the image", Edges::kept, maker, call);
        unchanged("sheets", Edges::sheets, maker, call);
    }

    private static void unchanged(String what, Look look, Maker maker, Call call) {
        StairFines asked = maker.make();
        call.ask(asked);
        due(what + ": as it was", look.tell(asked).equals(look.tell(maker.make())) ? 1 : 0, 1);
    }

    /** All that can be asked of the mountain, by the questions: "now 0", "place 39 4", "fine 5 7" and so on. */
    private static TreeMap<String, Integer> told(StairFines x) {
        TreeMap<String, Integer> told = new TreeMap<>();
        for (int what = 0; what <= 4; what++) {
            told.put("now " + what, x.now(what));
        }
        for (int what = 0; what <= 3; what++) {
            told.put("count " + what, x.count(what));
        }
        long whole = x.whole();
        for (int place = 0; place < 40; place++) {
            told.put("place " + place + " 0", x.placeOf(place, 0));
            for (int what = 2; what <= 4 && (whole >> place & 1) == 1; what++) {
                told.put("place " + place + " " + what, x.placeOf(place, what));
            }
        }
        int fines = x.count(0);
        for (int fine = 0; fine < fines; fine++) {
            for (int what = 0; what <= 7; what++) {
                told.put("fine " + fine + " " + what, x.of(fine, what));
            }
        }
        return told;
    }

    private static int[] statuses(StairFines x) {
        int[] counts = new int[8];
        for (int which = -1; which <= 6; which++) {
            counts[which + 1] = x.status(which);
        }
        return counts;
    }

    /** What the tape holds, told by the court that it is. */
    private static String tape(StairFines x) {
        return x.count(1) + " " + x.court() + " " + Checks.seen(x);
    }

    /** The bytes of the tape alone, where it is that of rich(): what its items set, whatever was there. */
    static String bytes(StairFines x) {
        return x.count(1) + " " + x.court() + " " + x.now(2) + x.placeOf(2, 0) + x.placeOf(3, 0) + x.placeOf(4, 0);
    }

    /** All that is seen but the tape. */
    static String mountain(StairFines x) {
        x.wipe();
        return Checks.seen(x);
    }

    static String kept(StairFines x) {
        x.wipe();
        return x.undo() + " " + Checks.seen(x) + " " + x.tear();
    }

    /** Numbers of all sheets, and their bits: copies of none tell them apart, and so does what is left of -2^62 + 7. */
    static String sheets(StairFines x) {
        StringBuilder s = new StringBuilder();
        for (int i = 0; i < 16; i++) {
            s.append(x.copy(i / 4, 0, i % 4, 0, 0)).append(' ');
        }
        for (int sheet = 0; sheet < 4; sheet++) {
            long was = 0;
            for (int i = 0; i < 40 && was != MISSING && was != BEYOND; i++) {
                was = x.write(sheet, i, 7 - (1L << 62));
                s.append(was).append(' ');
            }
            s.append(x.write(sheet, 0, 0)).append('\n');
        }
        return s.toString();
    }

    // ---- states

    /**
     * Much has gone on here, so that a change shows. There are six FINES, one of each KIND, FINE 4 with WORK; the
     * tape is a good text; an image is kept of three YEARS ago; sheets 0, 1, 2 have 8, 16, 64 bits and 40, 5, 0
     * numbers, and sheet 3 is MISSING.
     */
    static StairFines rich() {
        return richAt(6);
    }

    static StairFines richAt(int year) {
        StairFines x = new StairFines();
        Checks.goTo(x, year - 6);
        for (int kind = 0; kind < 6; kind++) {
            x.fine(kind, 9 + kind, 6 * kind);
        }
        x.rock(25, 9);
        x.rock(33, 8);
        x.let(1, 7);
        x.seed(99);
        x.years(3);
        x.image();
        x.let(0, 1);
        x.years(3);
        Checks.feed(x, "meets 3;rock 2 to 4 of 6");
        x.sheet(0, 8, 40);
        x.sheet(1, 16, 5);
        x.sheet(2, 64, 0);
        for (int i = 0; i < 5; i++) {
            x.write(0, i, 1 + i);
            x.write(1, i, 300 + i);
        }
        return x;
    }

    /** The same with ten FINES. */
    static StairFines full() {
        StairFines x = rich();
        for (int fine = 6; fine < 10; fine++) {
            x.fine(fine % 6, fine, fine);
        }
        return x;
    }

    /** A FINE that is paid, and a YEAR. */
    static StairFines paidAt(int year) {
        StairFines x = new StairFines();
        Checks.goTo(x, year);
        x.fine(0, 1, 0);
        x.set(0, 1, 0);
        return x;
    }

    /** A FINE that is paid, and all forty PLACES WHOLE, HIGH 10. */
    static StairFines allWhole() {
        return allWholeAt(0);
    }

    static StairFines allWholeAt(int year) {
        StairFines x = paidAt(year);
        for (int place = 0; place < 40; place++) {
            x.make(place, true, 0);
        }
        return x;
    }

    /** All but some PLACES are WHOLE. */
    static StairFines allBut(int... places) {
        StairFines x = allWhole();
        for (int place : places) {
            x.make(place, false, 0);
        }
        return x;
    }

    /** A stair from PLACE 0 on of such HIGH (7 to 25; 0: not WHOLE), cut by FINE 0, which owes nothing then. */
    static StairFines stair(int... highs) {
        StairFines x = paidAt(0);
        for (int place = 0; place < highs.length; place++) {
            if (highs[place] > 0) {
                cut(x, place, highs[place]);
            }
        }
        return x;
    }

    /** FINE 0 cuts a STEP of that HIGH (7 to 25) in two YEARS, in ROCK that it asks for. */
    static void cut(StairFines x, int place, int high) {
        int kind = high < 9 ? 2 : high <= 17 ? 0 : 4;
        int[] overRock = {8, 8, 6, 13, 16};
        x.rock(place, high - overRock[kind]);
        x.turn(0, kind);
        x.set(0, 1, 1);
        x.set(0, 2, place);
        x.set(0, 3, 9);
        x.years(2);
        x.turn(0, 0);
    }

    /** All forty PLACES WHOLE, cut by one FINE: one HIGH at even PLACES, another one at odd ones (9 to 17). */
    static StairFines zigzag(int even, int odd) {
        StairFines x = new StairFines();
        for (int place = 0; place < 40; place++) {
            x.rock(place, (place % 2 == 0 ? even : odd) - 8);
        }
        x.fine(0, 40, 0);
        x.set(0, 3, 9);
        x.years(40);
        return x;
    }
}
