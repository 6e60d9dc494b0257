/** Boundary cases of promises 17 to 21: on, reachOn, pass, paid, farthest. */
final class EdgesOnTest extends Edges {
    private EdgesOnTest() {
    }

    public static void main(String[] args) {
        promise17();
        promise18();
        promise19();
        promise20();
        promise21();
        end(17, 21);
    }

    /** What STATE is due for: YEAR and n together 10000; at 9999 it is none. BEYOND is asked first. */
    private static void lastYears(int promise, CallWith call) {
        int[][] taken = {{9799, 200}, {9800, 199}, {9998, 1}, {9999, 0}};
        for (int[] row : taken) {
            test(promise, row[1] + " from YEAR " + row[0] + " is taken", () -> richAt(row[0]), x -> {
                long answer = call.ask(x, row[1]);
                due("no finding, but " + answer, x.status(-1), 0);
                due("YEAR is as it was", x.now(0), row[0]);
            });
        }
        int[][] state = {{9800, 200}, {9801, 199}, {9999, 1}, {9999, 200}};
        for (int[] row : state) {
            refused(promise, row[1] + " from YEAR " + row[0], STATE, () -> richAt(row[0]), x -> call.ask(x, row[1]));
        }
        for (int n : new int[] {-1, 201, MIN, MAX}) {
            refused(promise, n + " from YEAR 9999: BEYOND first", BEYOND, () -> richAt(9999), x -> call.ask(x, n));
        }
    }

    /** FINES that cut, go on and pay, and FROST that draws. */
    private static StairFines frosty() {
        StairFines x = full();
        x.let(0, 3);
        x.seed(-77);
        return x;
    }

    /** One FINE of 40 STEPS AT 0, with the least ARM, in ROCK 5 everywhere but at 39. */
    private static StairFines slow(int rockAt39) {
        StairFines x = new StairFines();
        for (int place = 0; place < 39; place++) {
            x.rock(place, 5);
        }
        x.rock(39, rockAt39);
        x.fine(0, 40, 0);
        x.set(0, 3, 1);
        return x;
    }

    private static void promise17() {
        range(17, "n", 0, 200, Edges::rich, (x, v) -> x.on(v));
        lastYears(17, (x, v) -> x.on(v));
        changesNothing(17, EdgesOnTest::frosty, x -> x.on(200));
        changesNothing(17, EdgesOnTest::frosty, x -> x.on(1));
        test(17, "0 YEARS: as it is", EdgesOnTest::frosty, x -> due("WHOLE", x.on(0), x.whole()));
        answers(17, "no FINES", 0, StairFines::new, x -> x.on(200));
        answers(17, "all are WHOLE and stay", ALL, Edges::allWhole, x -> x.on(200));
        answers(17, "the last PLACE in the last YEAR", ALL, () -> slow(5), x -> x.on(200));
        answers(17, "the last PLACE a YEAR too late", ALL >> 1, () -> slow(6), x -> x.on(200));
        answers(17, "the last PLACE not in 199", ALL >> 1, () -> slow(5), x -> x.on(199));
        for (int n : new int[] {1, 2, 200}) {
            test(17, n + " YEARS with the same draws", EdgesOnTest::frosty, x -> {
                long on = x.on(n);
                due("asked twice", x.on(n), on);
                x.years(n);
                due("WHOLE then", x.whole(), on);
            });
        }
        test(17, "a finding of a long is the same number", x -> {
            due("BEYOND", x.on(-1), -1000000001L);
            Checks.goTo(x, 9999);
            due("STATE", x.on(1), -1000000005L);
        });
    }

    private static void promise18() {
        range(18, "n", 0, 200, Edges::rich, (x, v) -> x.reachOn(v));
        lastYears(18, (x, v) -> x.reachOn(v));
        changesNothing(18, EdgesOnTest::frosty, x -> x.reachOn(200));
        changesNothing(18, EdgesOnTest::frosty, x -> x.reachOn(1));
        test(18, "0 YEARS: as it is", EdgesOnTest::frosty, x -> due("REACH", x.reachOn(0), x.reach()));
        answers(18, "no FINES", 0, StairFines::new, x -> x.reachOn(200));
        answers(18, "the whole stair stays", 40, Edges::allWhole, x -> x.reachOn(200));
        answers(18, "THE PASS in the last YEAR", 40, () -> slow(5), x -> x.reachOn(200));
        answers(18, "THE PASS a YEAR too late", 39, () -> slow(6), x -> x.reachOn(200));
        for (int n : new int[] {1, 2, 200}) {
            test(18, n + " YEARS with the same draws", EdgesOnTest::frosty, x -> {
                int on = x.reachOn(n);
                x.years(n);
                due("REACH then", x.reach(), on);
            });
        }
    }

    private static void promise19() {
        answers(19, "in 0 YEARS", 0, Edges::allWhole, x -> x.pass());
        answers(19, "in 0 YEARS, whatever FROST will take", 0, () -> {
            StairFines x = allWhole();
            x.let(0, 9);
            return x;
        }, x -> x.pass());
        answers(19, "in 1 YEAR", 1, () -> {
            StairFines x = allBut(39);
            x.set(0, 1, 1);
            return x;
        }, x -> x.pass());
        answers(19, "in 200 YEARS", 200, () -> slow(5), x -> x.pass());
        refused(19, "in 201 YEARS", NONE, () -> slow(6), x -> x.pass());
        refused(19, "no FINES", NONE, StairFines::new, x -> x.pass());
        refused(19, "all but one, and nobody OWES", NONE, () -> allBut(39), x -> x.pass());
        refused(19, "all are WHOLE, two don't MEET", NONE, () -> zigzag(9, 14), x -> x.pass());
        answers(19, "all are WHOLE and MEET by 4", 0, () -> zigzag(9, 13), x -> x.pass());
        answers(19, "YEAR 9799", 0, () -> allWholeAt(9799), x -> x.pass());
        refused(19, "YEAR 9800, though it is REACHED", STATE, () -> allWholeAt(9800), x -> x.pass());
        refused(19, "YEAR 9799, never", NONE, () -> paidAt(9799), x -> x.pass());
        refused(19, "YEAR 9800, never: STATE first", STATE, () -> richAt(9800), x -> x.pass());
        refused(19, "YEAR 9999", STATE, () -> richAt(9999), x -> x.pass());
        test(19, "in 200 YEARS from 9799, the last there are", x -> {
            Checks.goTo(x, 9799);
            for (int place = 0; place < 40; place++) {
                x.rock(place, 5);
            }
            x.fine(0, 40, 0);
            x.set(0, 3, 1);
            due("YEARS", x.pass(), 200);
            due("YEAR is as it was", x.now(0), 9799);
        });
        changesNothing(19, EdgesOnTest::frosty, x -> x.pass());
    }

    private static void promise20() {
        numberOfFine(20, "", EdgesOnTest::payers, EdgesOnTest::tenPayers, (x, v) -> x.paid(v));
        answers(20, "in 0 YEARS", 0, () -> paidAt(0), x -> x.paid(0));
        answers(20, "in 1 YEAR", 1, EdgesOnTest::payers, x -> x.paid(0));
        answers(20, "in 200 YEARS", 200, () -> slow(5), x -> x.paid(0));
        refused(20, "in 201 YEARS", NONE, () -> slow(6), x -> x.paid(0));
        refused(20, "all are WHOLE: never", NONE, () -> {
            StairFines x = allWhole();
            x.set(0, 1, 1);
            return x;
        }, x -> x.paid(0));
        answers(20, "YEAR 9799", 0, () -> paidAt(9799), x -> x.paid(0));
        refused(20, "YEAR 9800, though it OWES nothing", STATE, () -> paidAt(9800), x -> x.paid(0));
        refused(20, "YEAR 9999", STATE, () -> richAt(9999), x -> x.paid(0));
        refused(20, "no such one at YEAR 9800: BEYOND first", BEYOND, () -> paidAt(9800), x -> x.paid(1));
        refused(20, "FINE -1 at YEAR 9999: BEYOND first", BEYOND, () -> richAt(9999), x -> x.paid(-1));
        answers(20, "FEIGNED: 3 STEPS in two", 2, () -> {
            StairFines x = new StairFines();
            x.fine(4, 3, 0);
            x.set(0, 3, 9);
            return x;
        }, x -> x.paid(0));
        changesNothing(20, EdgesOnTest::frosty, x -> x.paid(3));
    }

    /** Six FINES that owe 1. */
    private static StairFines payers() {
        StairFines x = rich();
        x.let(0, 0);
        for (int fine = 0; fine < 6; fine++) {
            x.set(fine, 1, 1);
        }
        return x;
    }

    private static StairFines tenPayers() {
        StairFines x = payers();
        for (int fine = 6; fine < 10; fine++) {
            x.fine(0, 1, fine);
        }
        return x;
    }

    private static void promise21() {
        range(21, "n", 0, 200, Edges::rich, (x, v) -> x.farthest(v));
        lastYears(21, (x, v) -> x.farthest(v));
        changesNothing(21, EdgesOnTest::frosty, x -> x.farthest(200));
        answers(21, "no FINES", 0, StairFines::new, x -> x.farthest(200));
        answers(21, "0 YEARS: REACH now", 40, Edges::allWhole, x -> x.farthest(0));
        answers(21, "0 YEARS: not what comes", 0, () -> slow(5), x -> x.farthest(0));
        test(21, "the first of all is the greatest", Edges::allWhole, x -> {
            x.let(0, 9);
            due("later", x.reachOn(200), 0);
            due("farthest", x.farthest(200), 40);
            due("farthest of few", x.farthest(1), 40);
        });
        answers(21, "the last of all is the greatest", 40, () -> slow(5), x -> x.farthest(200));
        answers(21, "a YEAR too late", 39, () -> slow(6), x -> x.farthest(200));
        answers(21, "not the YEAR behind n", 39, () -> slow(5), x -> x.farthest(199));
        test(21, "the greatest between", x -> {
            // PLACE 0 is cut in the first YEAR, and FROST takes it when z comes to a draw below 1.
            x.fine(0, 1, 0);
            x.let(0, 1);
            due("REACH now", x.reach(), 0);
            due("REACH in the end", x.reachOn(200), 0);
            due("farthest", x.farthest(200), 1);
        });
    }
}
