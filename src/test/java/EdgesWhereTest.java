/** Boundary cases of promises 22 to 30: where, what first, for which sin. */
final class EdgesWhereTest extends Edges {
    private EdgesWhereTest() {
    }

    public static void main(String[] args) {
        promise22();
        promise23();
        promise24();
        promise25();
        promise26();
        promise27();
        promise28();
        promise28frost();
        promise29();
        promise30();
        triedOneByOne();
        end(22, 30);
    }

    /** YEAR and n together may be 9999, not 10000; BEYOND is asked first. */
    private static void lastYears(int promise, int most, CallWith call) {
        int[][] state = {{9999 - most + 1, most}, {9999, 1}, {9999, most}};
        for (int[] row : state) {
            refused(promise, row[1] + " from YEAR " + row[0], STATE, () -> richAt(row[0]), x -> call.ask(x, row[1]));
        }
        int[][] taken = {{9999 - most, most}, {9999 - most + 1, most - 1}, {9998, 1}};
        for (int[] row : taken) {
            test(promise, row[1] + " from YEAR " + row[0] + " is taken", () -> richAt(row[0]), x -> {
                long answer = call.ask(x, row[1]);
                due("not STATE", answer == STATE || answer == BEYOND ? 1 : 0, 0);
                due("YEAR is as it was", x.now(0), row[0]);
            });
        }
        for (int n : new int[] {0, -1, most + 1, MIN, MAX}) {
            refused(promise, n + " from YEAR 9999: BEYOND first", BEYOND, () -> richAt(9999), x -> call.ask(x, n));
        }
    }

    // ---- best

    private static void promise22() {
        numberOfFine(22, "", Edges::rich, Edges::full, (x, v) -> x.best(v, 3));
        range(22, "n", 1, 100, Edges::rich, (x, v) -> x.best(4, v));
        refused(22, "both are BEYOND", BEYOND, Edges::rich, x -> x.best(6, 101));
        refused(22, "no such FINE at YEAR 9999: BEYOND first", BEYOND, () -> richAt(9999), x -> x.best(6, 1));
        refused(22, "FINE -1 at YEAR 9999: BEYOND first", BEYOND, () -> richAt(9999), x -> x.best(-1, 1));
        lastYears(22, 100, (x, v) -> x.best(4, v));
        changesNothing(22, Edges::rich, x -> x.best(4, 100));
        for (int p : new int[] {0, 17, 39}) {
            answers(22, "all alike: where it is, " + p, p, () -> {
                StairFines x = paidAt(0);
                x.set(0, 2, p);
                return x;
            }, x -> x.best(0, 100));
        }
        answers(22, "PLACE 0 alone", 0, () -> {
            StairFines x = new StairFines();
            x.fine(0, 1, 20);
            return x;
        }, x -> x.best(0, 1));
        answers(22, "PLACE 39 alone", 39, EdgesWhereTest::lastTwo, x -> x.best(1, 2));
        answers(22, "of several the least", 0, () -> pair(20), x -> x.best(1, 1));
        answers(22, "of several where it is, ahead of the least", 1, () -> pair(1), x -> x.best(1, 1));
        answers(22, "of several where it is, which is the least", 0, () -> pair(0), x -> x.best(1, 1));
        test(22, "where it is as it is: with WORK", () -> stair(14), x -> {
            x.rock(1, 9);
            x.set(0, 1, 1);
            x.set(0, 2, 1);
            x.set(0, 3, 3);
            x.years(2);
            due("with WORK 6", x.best(0, 1), 1);
            x.set(0, 2, 0);
            due("with WORK 0 all are alike", x.best(0, 1), 0);
        });
        answers(22, "it harms AT each PLACE: where it is", 12, EdgesWhereTest::harmful, x -> x.best(1, 3));
        test(22, "where it is WORK counts, else it would be 6", EdgesWhereTest::workCounts, x -> {
            due("WORK", x.of(1, 4), 6);
            due("as it is", x.reachOn(2), 9);
            due("where it is", x.best(1, 2), 5);
            x.set(1, 2, 5);
            due("with WORK 0", x.reachOn(2), 8);
            due("AT 6, which is WHOLE, it comes to 7 at once", x.best(1, 2), 6);
        });
        test(22, "where it is WORK 0 isn't tried", EdgesWhereTest::workHarms, x -> {
            due("as it is it cuts too steep", x.reachOn(1), 1);
            due("elsewhere", x.best(0, 1), 1);
            x.set(0, 2, 0);
            due("with WORK 0 it would be as good where it is", x.best(0, 1), 0);
        });
        test(22, "elsewhere WORK is 0", x -> {
            for (int place = 0; place < 40; place++) {
                x.rock(place, 9);
            }
            x.fine(0, 1, 5);
            x.years(2);
            due("WORK", x.of(0, 4), 6);
            due("AT 0 it would not be enough", x.best(0, 1), 5);
            due("in three YEARS it is", x.best(0, 3), 0);
        });
    }

    /** PLACES 5, 7, 8 and so on aren't WHOLE; FINE 1 has all but cut 5, which FINE 0 does in two YEARS. */
    private static StairFines workCounts() {
        StairFines x = new StairFines();
        x.fine(0, 40, 5);
        x.fine(0, 40, 5);
        x.rock(5, 9);
        x.years(2);
        x.set(0, 2, 5);
        x.set(0, 3, 5);
        for (int place : new int[] {0, 1, 2, 3, 4, 6}) {
            x.make(place, true, 0);
        }
        x.let(1, 20);
        return x;
    }

    /** Place 1 is 17 HIGH. FINE 0, HASTY, has all but cut 0 so that it doesn't MEET, and FINE 1, so that it does. */
    private static StairFines workHarms() {
        StairFines x = stair(0, 17);
        x.rock(0, 9);
        x.rock(2, 9);
        x.fine(0, 1, 0);
        x.years(1);
        x.turn(0, 3);
        x.set(0, 1, 1);
        x.set(0, 2, 0);
        x.set(0, 3, 3);
        x.years(1);
        return x;
    }

    /** FINE 0 cuts 38 in the second YEAR; FINE 1 can have cut 39 then only if it begins there. */
    private static StairFines lastTwo() {
        StairFines x = allBut(38, 39);
        x.rock(38, 6);
        x.rock(39, 6);
        x.set(0, 1, 1);
        x.set(0, 2, 38);
        x.fine(0, 1, 5);
        return x;
    }

    /** FINE 0 would cut PLACE 5 well in three YEARS, but FINE 1 comes there from everywhere and cuts it too steep. */
    private static StairFines harmful() {
        StairFines x = allBut(5);
        x.set(0, 1, 1);
        x.set(0, 2, 5);
        x.set(0, 3, 1);
        x.fine(3, 1, 12);
        return x;
    }

    /** FINE 0 cuts 0 in the first YEAR, and FINE 1 cuts 1 if it is AT 0 or 1. */
    private static StairFines pair(int place) {
        StairFines x = new StairFines();
        x.fine(0, 5, 0);
        x.fine(0, 5, place);
        return x;
    }

    // ---- kind

    private static void promise23() {
        numberOfFine(23, "", Edges::rich, Edges::full, (x, v) -> x.kind(v, 3));
        range(23, "n", 1, 100, Edges::rich, (x, v) -> x.kind(4, v));
        refused(23, "both are BEYOND", BEYOND, Edges::rich, x -> x.kind(6, 101));
        refused(23, "no such FINE at YEAR 9999: BEYOND first", BEYOND, () -> richAt(9999), x -> x.kind(6, 1));
        refused(23, "FINE -1 at YEAR 9999: BEYOND first", BEYOND, () -> richAt(9999), x -> x.kind(-1, 1));
        lastYears(23, 100, (x, v) -> x.kind(4, v));
        changesNothing(23, Edges::rich, x -> x.kind(4, 100));
        for (int kind = 0; kind < 6; kind++) {
            int its = kind;
            answers(23, "all alike: 0, though it is " + its, 0, () -> {
                StairFines x = paidAt(0);
                x.turn(0, its);
                return x;
            }, x -> x.kind(0, 100));
        }
        answers(23, "11 of FINE and SHARED: the least", 0, () -> behind(11, 3), x -> x.kind(0, 1));
        answers(23, "9 of ALMS and SAINTLY: the least", 2, () -> behind(9, 3), x -> x.kind(0, 1));
        answers(23, "16 of HASTY", 3, () -> behind(16, 3), x -> x.kind(0, 1));
        answers(23, "19 of FEIGNED", 4, () -> behind(19, 3), x -> x.kind(0, 1));
        answers(23, "7 of SAINTLY", 5, () -> behind(7, 6), x -> x.kind(0, 1));
        answers(23, "6 in a YEAR of SHARED", 1, () -> weak(6), x -> x.kind(0, 1));
        answers(23, "7 in a YEAR of SAINTLY", 5, () -> weak(7), x -> x.kind(0, 1));
        answers(23, "8 in a YEAR of none: 0", 0, () -> weak(8), x -> x.kind(0, 1));
        test(23, "WORK that is done counts", () -> weak(9), x -> {
            x.turn(0, 0);
            x.years(1);
            due("6 more of SHARED", x.kind(0, 1), 1);
            x.set(0, 2, 0);
            due("with WORK 0 of none: 0", x.kind(0, 1), 0);
        });
    }

    /** PLACE 0 is that HIGH, and STEPS must be alike; a strong FINE is AT 1, in that ROCK. */
    private static StairFines behind(int high, int rock) {
        StairFines x = stair(high);
        x.let(1, 0);
        x.rock(1, rock);
        x.set(0, 1, 1);
        x.set(0, 2, 1);
        return x;
    }

    /** A FEIGNED one AT 0 with ARM 3. */
    private static StairFines weak(int rock) {
        StairFines x = new StairFines();
        x.rock(0, rock);
        x.fine(4, 1, 0);
        return x;
    }

    // ---- mend

    private static void promise24() {
        refused(24, "no FINE", NONE, StairFines::new, x -> x.mend());
        refused(24, "all are WHOLE", NONE, Edges::allWhole, x -> x.mend());
        answers(24, "nothing is WHOLE: PLACE 0", 0, () -> paidAt(0), x -> x.mend());
        answers(24, "PLACE 0 of all others", 0, () -> allBut(0), x -> x.mend());
        answers(24, "PLACE 39, the last", 39, () -> allBut(39), x -> x.mend());
        answers(24, "two are missing: the first, which makes it more", 10, () -> allBut(10, 30), x -> x.mend());
        answers(24, "10 MEETS 14", 1, () -> stair(14), x -> x.mend());
        refused(24, "10 doesn't MEET 15", NONE, () -> stair(15), x -> x.mend());
        refused(24, "10 doesn't MEET 15, whatever is behind", NONE, () -> stair(15, 0, 15), x -> x.mend());
        answers(24, "10 MEETS the one ahead alone: one more", 1, () -> stair(11, 0, 16), x -> x.mend());
        refused(24, "one that doesn't MEET is WHOLE: none can be made", NONE, () -> stair(11, 16, 0), x -> x.mend());
        refused(24, "all WHOLE, two don't MEET", NONE, () -> zigzag(9, 14), x -> x.mend());
        test(24, "HIGH 10 and MEETS 0", () -> stair(10), x -> {
            x.let(1, 0);
            due("alike", x.mend(), 1);
        });
        test(24, "HIGH 10, MEETS 0, and 9 or 11", () -> stair(11), x -> {
            x.let(1, 0);
            due("an inch is too much", x.mend(), NONE);
            x.let(1, 1);
            due("by 1", x.mend(), 1);
        });
        test(24, "at the last YEAR", () -> paidAt(9999), x -> due("PLACE", x.mend(), 0));
        changesNothing(24, Edges::rich, x -> x.mend());
    }

    // ---- needed

    private static void promise25() {
        range(25, "n", 1, 100, EdgesWhereTest::needsLast, (x, v) -> x.needed(v));
        lastYears(25, 100, (x, v) -> x.needed(v));
        refused(25, "no FINES", NONE, StairFines::new, x -> x.needed(1));
        refused(25, "no FINES: BEYOND first", BEYOND, StairFines::new, x -> x.needed(0));
        refused(25, "no FINES: BEYOND first, above", BEYOND, StairFines::new, x -> x.needed(101));
        refused(25, "no FINES at YEAR 9999: STATE ahead of NONE", STATE, () -> {
            StairFines x = new StairFines();
            Checks.goTo(x, 9999);
            return x;
        }, x -> x.needed(1));
        refused(25, "nobody OWES", NONE, Edges::allWhole, x -> x.needed(100));
        refused(25, "the one that OWES is too far up", NONE, () -> {
            StairFines x = new StairFines();
            x.fine(0, 1, 39);
            return x;
        }, x -> x.needed(100));
        refused(25, "another does the same: as far without it", NONE, EdgesWhereTest::twins, x -> x.needed(1));
        refused(25, "without one it is more, not less", NONE, EdgesWhereTest::harmful, x -> x.needed(3));
        answers(25, "FINE 0 alone", 0, () -> {
            StairFines x = new StairFines();
            x.fine(0, 1, 0);
            return x;
        }, x -> x.needed(1));
        answers(25, "FINE 9 of ten", 9, EdgesWhereTest::needsLast, x -> x.needed(1));
        answers(25, "of several the least", 1, EdgesWhereTest::needsTwo, x -> x.needed(2));
        answers(25, "the least REACH, not the first that is less", 2, EdgesWhereTest::needsLower, x -> x.needed(2));
        changesNothing(25, Edges::rich, x -> x.needed(100));
    }

    /** Ten FINES, of which the last alone cuts PLACE 0. */
    private static StairFines needsLast() {
        StairFines x = new StairFines();
        for (int fine = 0; fine < 9; fine++) {
            x.fine(0, 1, 10 + fine);
        }
        x.fine(0, 1, 0);
        return x;
    }

    /** Both cut PLACE 0 in a YEAR, and neither can cut 1 in it. */
    private static StairFines twins() {
        StairFines x = new StairFines();
        x.rock(1, 9);
        x.fine(0, 1, 0);
        x.fine(0, 1, 0);
        return x;
    }

    /** FINES 1 and 2 cut PLACES 0 and 1; without either of them it is PLACE 0 alone. */
    private static StairFines needsTwo() {
        StairFines x = new StairFines();
        x.fine(0, 1, 39);
        x.fine(0, 1, 0);
        x.fine(0, 1, 0);
        return x;
    }

    /** Without FINE 1 PLACE 1 isn't cut, without FINE 2 PLACE 0. */
    private static StairFines needsLower() {
        StairFines x = new StairFines();
        x.fine(0, 1, 39);
        x.fine(0, 1, 1);
        x.fine(0, 1, 0);
        return x;
    }

    // ---- steepest

    private static void promise26() {
        refused(26, "nothing is WHOLE", NONE, StairFines::new, x -> x.steepest());
        refused(26, "one is", NONE, () -> stair(25), x -> x.steepest());
        refused(26, "two that are apart", NONE, () -> stair(7, 0, 25), x -> x.steepest());
        refused(26, "0 and 39 are no two such", NONE, () -> {
            StairFines x = paidAt(0);
            x.make(0, true, 0);
            x.make(39, true, 0);
            return x;
        }, x -> x.steepest());
        answers(26, "0 and 1, alike", 1, () -> stair(11, 11), x -> x.steepest());
        answers(26, "38 and 39", 39, () -> {
            StairFines x = paidAt(0);
            x.make(38, true, 0);
            x.make(39, true, 0);
            return x;
        }, x -> x.steepest());
        answers(26, "all alike: the least", 1, Edges::allWhole, x -> x.steepest());
        answers(26, "one pair that goes down", 1, () -> stair(25, 7), x -> x.steepest());
        answers(26, "all go down: the least deep", 3, () -> stair(25, 20, 13, 11, 7), x -> x.steepest());
        answers(26, "level is above down", 2, () -> stair(25, 7, 7), x -> x.steepest());
        answers(26, "up by all that can be", 3, () -> stair(8, 25, 7, 25), x -> x.steepest());
        answers(26, "of several up the least", 1, () -> zigzag(9, 17), x -> x.steepest());
        answers(26, "of several up the least, behind one down", 2, () -> zigzag(17, 9), x -> x.steepest());
        answers(26, "the last of all", 39, () -> {
            StairFines x = allBut(39);
            cut(x, 39, 11);
            return x;
        }, x -> x.steepest());
        test(26, "a broken one's HIGH counts no more", () -> stair(11, 25, 9, 10), x -> {
            due("ahead of it", x.steepest(), 1);
            x.make(1, false, 0);
            due("then", x.steepest(), 3);
        });
        changesNothing(26, Edges::rich, x -> x.steepest());
    }

    // ---- whose

    private static void promise27() {
        range(27, "PLACE", 0, 39, Edges::rich, (x, v) -> x.whose(v, 11));
        range(27, "HIGH", 0, 40, Edges::rich, (x, v) -> x.whose(0, v));
        refused(27, "both are BEYOND", BEYOND, Edges::rich, x -> x.whose(40, 41));
        refused(27, "PLACE 40 without FINES", BEYOND, StairFines::new, x -> x.whose(40, 11));
        answers(27, "no FINES", 0, StairFines::new, x -> x.whose(0, 11));
        answers(27, "none cuts 0", 0, Edges::full, x -> x.whose(0, 0));
        answers(27, "none cuts 40", 0, Edges::full, x -> x.whose(0, 40));
        test(27, "all ten", x -> {
            for (int fine = 0; fine < 10; fine++) {
                x.fine(0, 1, 0);
            }
            due("as a set", x.whose(39, 11), 1023);
            x.turn(9, 4);
            due("all but the tenth", x.whose(39, 11), 511);
            due("the tenth alone", x.whose(39, 19), 512);
        });
        test(27, "the least HIGH in the softest ROCK", EdgesWhereTest::sixKinds, x -> {
            x.rock(39, 1);
            due("6", x.whose(39, 6), 0);
            due("7: ALMS, SAINTLY", x.whose(39, 7), 1 << 2 | 1 << 5);
            due("17: FEIGNED", x.whose(39, 17), 1 << 4);
            due("18", x.whose(39, 18), 0);
        });
        test(27, "the greatest HIGH in the hardest ROCK", EdgesWhereTest::sixKinds, x -> {
            x.rock(0, 9);
            due("7: SAINTLY", x.whose(0, 7), 1 << 5);
            due("15: ALMS", x.whose(0, 15), 1 << 2);
            due("25: FEIGNED", x.whose(0, 25), 1 << 4);
            due("26", x.whose(0, 26), 0);
        });
        test(27, "ROCK 5 and 6 for a SAINTLY one", EdgesWhereTest::sixKinds, x -> {
            x.rock(3, 5);
            due("5: 11", x.whose(3, 11), 1 << 2 | 1 << 5);
            due("5: 7", x.whose(3, 7), 0);
            x.rock(3, 6);
            due("6: 12", x.whose(3, 12), 1 << 2);
            due("6: 7", x.whose(3, 7), 1 << 5);
        });
        answers(27, "one that OWES nothing could have", 1, () -> paidAt(0), x -> x.whose(0, 11));
        answers(27, "a PLACE that isn't WHOLE", 1, () -> paidAt(0), x -> x.whose(39, 11));
    }

    private static StairFines sixKinds() {
        StairFines x = new StairFines();
        for (int kind = 0; kind < 6; kind++) {
            x.fine(kind, 1, 0);
        }
        return x;
    }

    // ---- bears

    private static void promise28() {
        range(28, "n", 1, 200, Edges::allWhole, (x, v) -> x.bears(v));
        lastYears(28, 200, (x, v) -> x.bears(v));
        refused(28, "no FINES", NONE, StairFines::new, x -> x.bears(200));
        refused(28, "no FINES: BEYOND first", BEYOND, StairFines::new, x -> x.bears(0));
        refused(28, "nothing WHOLE at YEAR 9999: STATE ahead of NONE", STATE, () -> paidAt(9999), x -> x.bears(1));
        refused(28, "all but one, and nobody OWES", NONE, () -> allBut(39), x -> x.bears(200));
        refused(28, "all WHOLE, two don't MEET", NONE, () -> zigzag(9, 14), x -> x.bears(1));
        test(28, "THE PASS in the last of the YEARS asked", x -> {
            x.fine(0, 40, 0);
            due("39", x.bears(39), NONE);
            due("40", x.bears(40), 0);
        });
        test(28, "THE PASS in 200 YEARS", x -> {
            for (int place = 0; place < 40; place++) {
                x.rock(place, 5);
            }
            x.fine(0, 40, 0);
            x.set(0, 3, 1);
            due("199", x.bears(199), NONE);
            due("200", x.bears(200), 0);
        });
        changesNothing(28, Edges::full, x -> x.bears(200));
    }

    private static void promise28frost() {
        // Found by trying all seeds: the least of the first 40 draws is that; with no seed it is above 4.
        int[][] leastOfSeed = {{1, 0}, {5, 1}, {9936, 2}, {269484, 3}, {182631215, 4}};
        for (int[] row : leastOfSeed) {
            test(28, "FROST as great as the least of forty draws, " + row[1], Edges::allWhole, x -> {
                int least = 9;
                int z = row[0];
                for (int i = 0; i < 40; i++) {
                    z = EdgesYearsTest.next(z);
                    least = Math.min(least, EdgesYearsTest.draw(z));
                }
                due("the least draw", least, row[1]);
                x.seed(row[0]);
                due("bears(1)", x.bears(1), row[1]);
            });
        }
        test(28, "n YEARS on, not at some time up to then", Edges::allWhole, x -> {
            // With that seed FROST 4 takes none in the first YEAR, and some in the second.
            x.seed(182631215);
            x.let(0, 4);
            due("REACH ON 1", x.reachOn(1), 40);
            due("REACH ON 2", x.reachOn(2) < 40 ? 1 : 0, 1);
            due("bears(1)", x.bears(1), 4);
            due("bears(2)", x.bears(2) < 4 ? 1 : 0, 1);
        });
        test(28, "the FROST there is now is no matter", Edges::allWhole, x -> {
            x.seed(182631215);
            x.let(0, 9);
            due("bears(1)", x.bears(1), 4);
            due("FROST is as it was", x.now(1), 9);
        });
    }

    // ---- meetsFor

    private static void promise29() {
        range(29, "v", 0, 40, Edges::allWhole, (x, v) -> x.meetsFor(v));
        answers(29, "0 is always reached", 0, StairFines::new, x -> x.meetsFor(0));
        refused(29, "1, and nothing is WHOLE", NONE, StairFines::new, x -> x.meetsFor(1));
        answers(29, "1, and PLACE 0 is WHOLE", 0, () -> stair(25), x -> x.meetsFor(1));
        refused(29, "2, and PLACE 0 alone is WHOLE", NONE, () -> stair(25), x -> x.meetsFor(2));
        answers(29, "40 of alike ones", 0, Edges::allWhole, x -> x.meetsFor(40));
        refused(29, "40 with 39 WHOLE", NONE, () -> allBut(39), x -> x.meetsFor(40));
        answers(29, "39 with 39 WHOLE", 0, () -> allBut(39), x -> x.meetsFor(39));
        answers(29, "40 of those 8 unlike", 8, () -> zigzag(9, 17), x -> x.meetsFor(40));
        answers(29, "2 of those that are most unlike, up", 18, () -> stair(7, 25), x -> x.meetsFor(2));
        answers(29, "2 of those that are most unlike, down", 18, () -> stair(25, 7), x -> x.meetsFor(2));
        answers(29, "v or more", 1, () -> stair(11, 12, 12, 12), x -> x.meetsFor(2));
        test(29, "the MEETS there is now is no matter", () -> stair(11, 15), x -> {
            x.let(1, 20);
            due("meetsFor(2)", x.meetsFor(2), 4);
            x.let(1, 0);
            due("meetsFor(2)", x.meetsFor(2), 4);
            due("MEETS is as it was", x.now(2), 0);
        });
        changesNothing(29, Edges::rich, x -> x.meetsFor(40));
    }

    // ---- alone

    private static void promise30() {
        numberOfFine(30, "", Edges::rich, Edges::full, (x, v) -> x.alone(v));
        answers(30, "all are WHOLE", 0, Edges::allWhole, x -> x.alone(0));
        answers(30, "one isn't", 1, () -> allBut(39), x -> x.alone(0));
        answers(30, "PLACE 0 isn't", 1, () -> allBut(0), x -> x.alone(0));
        int[][] years = {{1, 9}, {2, 5}, {3, 3}, {4, 3}, {5, 2}, {8, 2}, {9, 1}};
        for (int[] row : years) {
            test(30, "ROCK 9 by " + row[0] + ", rounded up", () -> allBut(39), x -> {
                x.rock(39, 9);
                x.set(0, 3, row[0]);
                due("YEARS", x.alone(0), row[1]);
            });
        }
        test(30, "rounded up for each PLACE, not together", x -> {
            x.fine(0, 1, 0);
            x.set(0, 3, 9);
            due("3 by 9, forty times", x.alone(0), 40);
            x.turn(0, 1);
            due("3 by 18, forty times", x.alone(0), 40);
        });
        test(30, "the most there can be", x -> {
            for (int place = 0; place < 40; place++) {
                x.rock(place, 9);
            }
            x.fine(0, 1, 0);
            x.set(0, 3, 1);
            due("9 by 1, forty times", x.alone(0), 360);
            x.turn(0, 4);
            due("9 by the half of 3, cut", x.alone(0), 360);
        });
        test(30, "SAINTLY WORKS as now, though it will be less", x -> {
            x.fine(5, 1, 0);
            x.set(0, 3, 1);
            due("3 by 5, forty times", x.alone(0), 40);
            x.make(0, true, 0);
            due("3 by 4", x.alone(0), 39);
            x.make(1, true, 0);
            x.rock(39, 5);
            due("3 by 4, and 5 by 4", x.alone(0), 39);
        });
        answers(30, "one that OWES nothing, and WORK is no matter", 3, () -> {
            StairFines x = allBut(7);
            x.rock(7, 9);
            x.set(0, 1, 1);
            x.set(0, 2, 7);
            x.years(2);
            x.set(0, 1, 0);
            return x;
        }, x -> x.alone(0));
    }

    // ---- all that may be, tried on objects of their own

    /** FINES at work on a stair that is all but whole, with FROST. */
    private static StairFines tried(int seed) {
        StairFines x = allBut(seed % 40, (seed * 7 + 3) % 40, (seed * 11 + 20) % 40);
        x.let(0, seed % 3);
        x.let(1, 8);
        x.seed(seed * 12345);
        x.rock(seed % 40, 9);
        x.set(0, 2, seed % 40);
        x.set(0, 1, 3);
        x.fine(seed % 6, 5, (seed * 7) % 40);
        x.fine(3, 2, (seed * 11) % 40);
        x.years(1 + seed % 2);
        return x;
    }

    private static int reachOf(int seed, int n, Call change) {
        StairFines x = tried(seed);
        change.ask(x);
        return x.reachOn(n);
    }

    private static void triedOneByOne() {
        for (int s = 1; s <= 30; s++) {
            int seed = s;
            int n = 1 + seed % 7;
            test(22, "tried one by one, " + seed, () -> tried(seed), x -> due("best", x.best(1, n), bestOf(seed, n)));
            test(23, "tried one by one, " + seed, () -> tried(seed), x -> due("kind", x.kind(1, n), kindOf(seed, n)));
            test(24, "tried one by one, " + seed, () -> tried(seed), x -> due("mend", x.mend(), mendOf(seed)));
            test(25, "tried one by one, " + seed, () -> tried(seed), x -> due("needed", x.needed(n), neededOf(seed, n)));
            test(28, "tried one by one, " + seed, () -> tried(seed), x -> due("bears", x.bears(n), bearsOf(seed, n)));
            test(29, "tried one by one, " + seed, () -> tried(seed), x -> due("meetsFor", x.meetsFor(seed), meetsOf(seed)));
        }
    }

    private static long bestOf(int seed, int n) {
        int own = tried(seed).of(1, 2);
        int best = own;
        int greatest = reachOf(seed, n, x -> 0);
        for (int p = 0; p < 40; p++) {
            int place = p;
            int reach = place == own ? 0 : reachOf(seed, n, x -> x.set(1, 2, place));
            if (reach > greatest) {
                greatest = reach;
                best = place;
            }
        }
        return best;
    }

    private static long kindOf(int seed, int n) {
        int best = 0;
        for (int k = 1; k < 6; k++) {
            int kind = k;
            int soFar = best;
            if (reachOf(seed, n, x -> x.turn(1, kind)) > reachOf(seed, n, x -> x.turn(1, soFar))) {
                best = kind;
            }
        }
        return best;
    }

    private static long mendOf(int seed) {
        long mend = NONE;
        int greatest = reachOf(seed, 0, x -> 0);
        for (int p = 0; p < 40; p++) {
            int place = p;
            int reach = reachOf(seed, 0, x -> x.make(place, true, 0));
            if (reach > greatest) {
                greatest = reach;
                mend = place;
            }
        }
        return mend;
    }

    private static long neededOf(int seed, int n) {
        long needed = NONE;
        int least = reachOf(seed, n, x -> 0);
        for (int f = 0; f < 3; f++) {
            int fine = f;
            int reach = reachOf(seed, n, x -> x.set(fine, 1, 0));
            if (reach < least) {
                least = reach;
                needed = fine;
            }
        }
        return needed;
    }

    private static long bearsOf(int seed, int n) {
        long bears = NONE;
        for (int f = 0; f <= 9; f++) {
            int frost = f;
            bears = reachOf(seed, n, x -> x.let(0, frost)) == 40 ? frost : bears;
        }
        return bears;
    }

    private static long meetsOf(int seed) {
        long least = NONE;
        for (int m = 20; m >= 0; m--) {
            int meets = m;
            least = reachOf(seed, 0, x -> x.let(1, meets)) >= seed ? meets : least;
        }
        return least;
    }
}
