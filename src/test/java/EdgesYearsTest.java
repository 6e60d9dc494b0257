/** Boundary cases of promises 14 to 16: years, with all that the terms tell of how a YEAR goes, seed, now. */
final class EdgesYearsTest extends Edges {
    private EdgesYearsTest() {
    }

    public static void main(String[] args) {
        promise14();
        promise14work();
        promise14goesOn();
        promise14allWhole();
        promise14owes();
        promise14frost();
        promise14draws();
        promise15();
        promise16();
        end(14, 16);
    }

    private static void promise14() {
        range(14, "n", 1, 200, Edges::rich, (x, v) -> x.years(v));
        answers(14, "no FINES", 0, StairFines::new, x -> x.years(200));
        answers(14, "all are WHOLE", 40, Edges::allWhole, x -> x.years(200));
        answers(14, "1 YEAR", 1, EdgesYearsTest::one, x -> x.years(1));
        answers(14, "200 YEARS", 40, EdgesYearsTest::one, x -> x.years(200));
        test(14, "from YEAR 9799 to 9999", () -> richAt(9799), x -> {
            x.years(200);
            due("YEAR", x.now(0), 9999);
            due("findings", x.status(-1), 0);
        });
        test(14, "from YEAR 9998 to 9999", () -> richAt(9998), x -> {
            x.years(1);
            due("YEAR", x.now(0), 9999);
            due("findings", x.status(-1), 0);
        });
        refused(14, "200 from YEAR 9800", STATE, () -> richAt(9800), x -> x.years(200));
        answers(14, "199 from YEAR 9800", 0, () -> paidAt(9800), x -> x.years(199));
        refused(14, "1 from YEAR 9999", STATE, () -> richAt(9999), x -> x.years(1));
        refused(14, "200 from YEAR 9999", STATE, () -> richAt(9999), x -> x.years(200));
        refused(14, "0 from YEAR 9999: BEYOND first", BEYOND, () -> richAt(9999), x -> x.years(0));
        refused(14, "201 from YEAR 9999: BEYOND first", BEYOND, () -> richAt(9999), x -> x.years(201));
        refused(14, "MAX from YEAR 9999: BEYOND first", BEYOND, () -> richAt(9999), x -> x.years(MAX));
        test(14, "a STEP is cut in the YEAR ahead of the count", x -> {
            x.fine(0, 2, 0);
            x.years(2);
            due("the first YEAR", x.placeOf(0, 4), 0);
            due("the second", x.placeOf(1, 4), 1);
            due("YEAR", x.now(0), 2);
        });
        test(14, "the last YEAR in which one is cut", x -> {
            Checks.goTo(x, 9998);
            x.fine(0, 2, 0);
            x.years(1);
            due("YEAR", x.placeOf(0, 4), 9998);
        });
    }

    /** One FINE of 40 STEPS AT 0, which cuts one each YEAR. */
    private static StairFines one() {
        StairFines x = new StairFines();
        x.fine(0, 40, 0);
        return x;
    }

    private static void promise14work() {
        test(14, "WORK as much as ROCK", EdgesYearsTest::one, x -> {
            x.years(1);
            due("WHOLE", x.placeOf(0, 1), 1);
            due("WORK", x.of(0, 4), 0);
        });
        test(14, "WORK one less than ROCK", EdgesYearsTest::one, x -> {
            x.rock(0, 4);
            x.years(1);
            due("WHOLE", x.placeOf(0, 1), 0);
            due("WORK", x.of(0, 4), 3);
            due("OWES", x.of(0, 1), 40);
            x.years(1);
            due("WHOLE then", x.placeOf(0, 1), 1);
            due("the rest of WORK is lost", x.of(0, 4), 0);
        });
        test(14, "the least ARM in the hardest ROCK", EdgesYearsTest::one, x -> {
            x.rock(0, 9);
            x.set(0, 3, 1);
            x.years(8);
            due("WHOLE in 8", x.placeOf(0, 1), 0);
            due("WORK", x.of(0, 4), 8);
            x.years(1);
            due("WHOLE in 9", x.placeOf(0, 1), 1);
        });
        test(14, "one STEP a YEAR at most", EdgesYearsTest::one, x -> {
            x.turn(0, 1);
            x.set(0, 3, 9);
            x.rock(0, 1);
            x.rock(1, 1);
            due("WHOLE", x.years(1), 1);
            due("WORK", x.of(0, 4), 0);
            due("it is where it was", x.of(0, 2), 0);
        });
        test(14, "ROCK that became less than WORK needs a YEAR", EdgesYearsTest::one, x -> {
            x.rock(0, 9);
            x.years(2);
            x.rock(0, 1);
            due("not yet", x.placeOf(0, 1), 0);
            x.years(1);
            due("WHOLE", x.placeOf(0, 1), 1);
            due("HIGH of the ROCK that is there", x.placeOf(0, 2), 9);
        });
        test(14, "the tenth FINE works, too", x -> {
            for (int fine = 0; fine < 10; fine++) {
                x.fine(0, 1, 4 * fine);
            }
            due("WHOLE", x.years(1), 10);
            due("CUTTER", x.placeOf(36, 3), 9);
        });
        test(14, "SAINTLY: what isn't WHOLE when its turn comes", x -> {
            x.fine(0, 1, 0);
            x.fine(5, 1, 9);
            x.rock(9, 9);
            for (int place = 31; place < 40; place++) {
                x.make(place, true, 0);
            }
            x.make(30, true, 0);
            due("30 aren't WHOLE", x.of(1, 5), 6);
            x.years(1);
            due("29 aren't when its turn comes", x.of(1, 4), 5);
        });
    }

    private static void promise14goesOn() {
        test(14, "behind 39: 0", () -> allBut(0), x -> {
            x.rock(0, 9);
            x.set(0, 1, 1);
            x.set(0, 2, 39);
            x.years(1);
            due("PLACE", x.of(0, 2), 0);
            due("WORK", x.of(0, 4), 3);
        });
        test(14, "from 39 that isn't WHOLE it doesn't go", StairFines::new, x -> {
            x.fine(0, 2, 39);
            x.years(1);
            due("39 is cut", x.whole(), 1L << 39);
            due("PLACE", x.of(0, 2), 39);
            x.years(1);
            due("then 0", x.whole(), 1L << 39 | 1);
            due("PLACE then", x.of(0, 2), 0);
        });
        for (int p = 0; p < 40; p++) {
            int last = p;
            test(14, "all the way round to " + last, () -> allBut(last), x -> {
                x.rock(last, 9);
                x.set(0, 1, 1);
                x.set(0, 2, (last + 1) % 40);
                x.years(1);
                due("PLACE", x.of(0, 2), last);
                due("WORK", x.of(0, 4), 3);
            });
        }
        test(14, "WORK is lost where another was faster", x -> {
            x.rock(5, 9);
            x.rock(6, 9);
            x.fine(0, 1, 5);
            x.fine(1, 1, 5);
            x.set(1, 3, 9);
            x.years(1);
            due("the other cut it", x.placeOf(5, 3), 1);
            due("WORK is there still", x.of(0, 4), 3);
            due("PLACE, too", x.of(0, 2), 5);
            x.years(1);
            due("it went on", x.of(0, 2), 6);
            due("WORK is that of one YEAR", x.of(0, 4), 3);
        });
        test(14, "two AT one PLACE: by numbers", x -> {
            x.fine(0, 2, 5);
            x.fine(3, 2, 5);
            x.years(1);
            due("the first cut it", x.placeOf(5, 3), 0);
            due("the second went on in the same YEAR and cut the next", x.placeOf(6, 3), 1);
        });
        test(14, "one that needn't go on keeps WORK", EdgesYearsTest::one, x -> {
            x.rock(0, 9);
            x.years(2);
            due("WORK", x.of(0, 4), 6);
        });
    }

    private static void promise14allWhole() {
        test(14, "all are WHOLE: it stays and doesn't work", Edges::allWhole, x -> {
            x.set(0, 1, 40);
            x.set(0, 2, 17);
            due("WHOLE", x.years(200), 40);
            due("PLACE", x.of(0, 2), 17);
            due("WORK", x.of(0, 4), 0);
            due("OWES", x.of(0, 1), 40);
            due("YEAR", x.now(0), 200);
        });
        test(14, "all became WHOLE while it was at work: WORK stays", () -> allBut(17), x -> {
            x.rock(17, 9);
            x.set(0, 1, 40);
            x.set(0, 2, 17);
            x.years(1);
            x.make(17, true, 0);
            x.years(1);
            due("WORK", x.of(0, 4), 3);
            x.make(17, false, 0);
            x.years(1);
            due("it works on", x.of(0, 4), 6);
        });
        test(14, "all are WHOLE, FROST draws, and it was at work: WORK stays", () -> allBut(17), x -> {
            x.rock(17, 9);
            x.set(0, 1, 40);
            x.set(0, 2, 17);
            x.years(1);
            x.make(17, true, 0);
            x.let(0, 1);
            x.years(1);
            due("PLACE", x.of(0, 2), 17);
            due("WORK", x.of(0, 4), 3);
        });
        test(14, "the one ahead cuts the last PLACE: WORK of the next one stays", () -> allBut(30), x -> {
            x.rock(30, 9);
            x.set(0, 1, 2);
            x.set(0, 2, 30);
            x.fine(0, 2, 30);
            x.years(2);
            due("WORK of both is 6", x.of(0, 4) * 10 + x.of(1, 4), 66);
            due("WHOLE", x.years(1), 40);
            due("PLACE", x.of(1, 2), 30);
            due("WORK", x.of(1, 4), 6);
        });
        test(14, "the one ahead cuts the last PLACE: the next one stays", () -> allBut(30), x -> {
            x.set(0, 1, 2);
            x.set(0, 2, 30);
            x.fine(0, 2, 12);
            due("WHOLE", x.years(1), 40);
            due("PLACE", x.of(1, 2), 12);
            due("WORK", x.of(1, 4), 0);
            due("OWES", x.of(1, 1), 2);
        });
        test(14, "the one behind cuts the last PLACE", () -> allBut(30), x -> {
            x.rock(30, 9);
            x.set(0, 1, 2);
            x.set(0, 2, 12);
            x.fine(1, 2, 30);
            x.set(1, 3, 9);
            due("WHOLE", x.years(1), 40);
            due("the first came there and worked", x.of(0, 2) * 10 + x.of(0, 4), 303);
            due("the second cut it", x.placeOf(30, 3), 1);
        });
        test(14, "all are WHOLE, and FROST draws for each", Edges::allWhole, x -> {
            x.let(0, 1);
            int z = 1;
            long whole = 0;
            for (int place = 0; place < 40; place++) {
                z = next(z);
                whole |= draw(z) >= 1 ? 1L << place : 0;
            }
            x.years(1);
            due("z", x.count(3), z);
            due("WHOLE", x.whole(), whole);
        });
    }

    private static void promise14owes() {
        test(14, "one that OWES nothing doesn't go on", () -> stair(11, 11), x -> {
            x.set(0, 2, 0);
            x.fine(0, 1, 9);
            x.years(1);
            due("PLACE", x.of(0, 2), 0);
            x.years(1);
            due("PLACE, when nobody OWES", x.of(0, 2), 0);
        });
        test(14, "one that OWES nothing keeps WORK", x -> {
            x.rock(0, 9);
            x.fine(0, 1, 0);
            x.fine(0, 1, 9);
            x.years(2);
            x.set(0, 1, 0);
            x.set(1, 1, 1);
            x.make(0, true, 1);
            x.years(1);
            due("WORK", x.of(0, 4), 6);
            due("PLACE", x.of(0, 2), 0);
        });
        for (int f = 0; f < 10; f++) {
            int fine = f;
            test(14, "FINE " + fine + " of ten alone OWES", x -> {
                for (int other = 0; other < 10; other++) {
                    x.fine(0, 1, 4 * other);
                    x.set(other, 1, other == fine ? 1 : 0);
                }
                due("WHOLE", x.years(1), 1);
                due("CUTTER", x.placeOf(4 * fine, 3), fine);
            });
        }
        test(14, "one that OWES 0 stays and doesn't work", () -> allBut(20), x -> {
            x.rock(20, 9);
            x.set(0, 2, 10);
            x.years(200);
            due("PLACE", x.of(0, 2), 10);
            due("WORK", x.of(0, 4), 0);
            due("WHOLE", x.whole(), ALL - (1L << 20));
        });
        test(14, "one that OWES 1 cuts one", x -> {
            x.fine(0, 1, 0);
            due("WHOLE", x.years(200), 1);
            due("OWES", x.of(0, 1), 0);
        });
        test(14, "40 STEPS are all PLACES", EdgesYearsTest::one, x -> {
            due("WHOLE", x.years(40), 40);
            due("OWES", x.of(0, 1), 0);
        });
        int[][] feigned = {{1, 0}, {2, 0}, {3, 1}, {4, 2}, {40, 38}};
        for (int[] row : feigned) {
            test(14, "a STEP of a FEIGNED one that OWES " + row[0], x -> {
                x.fine(4, row[0], 0);
                x.set(0, 3, 9);
                x.years(1);
                due("WHOLE", x.placeOf(0, 1), 1);
                due("OWES", x.of(0, 1), row[1]);
            });
        }
        for (int kind : new int[] {0, 1, 2, 3, 5}) {
            test(14, "a STEP of kind " + kind + " counts 1", x -> {
                x.fine(kind, 1, 0);
                x.fine(kind, 40, 20);
                x.years(1);
                due("OWES", x.of(0, 1), 0);
                due("OWES", x.of(1, 1), 39);
            });
        }
    }

    private static void promise14frost() {
        test(14, "FROST 0: no draw", Edges::allWhole, x -> {
            due("WHOLE", x.years(200), 40);
            due("z", x.count(3), 1);
        });
        test(14, "FROST 0: no draw, though one works and others are WHOLE", EdgesYearsTest::one, x -> {
            x.years(1);
            due("WHOLE", x.years(20), 21);
            due("z", x.count(3), 1);
        });
        test(14, "FROST that became 0: no draw", Edges::rich, x -> {
            int z = x.count(3);
            x.let(0, 0);
            x.years(1);
            due("z", x.count(3), z);
        });
        test(14, "nothing WHOLE: no draw", x -> {
            x.let(0, 9);
            due("WHOLE", x.years(200), 0);
            due("z", x.count(3), 1);
        });
        for (int f = 1; f <= 9; f++) {
            int frost = f;
            test(14, "FROST " + frost + " takes a draw of " + (frost - 1), () -> stair(11), x -> {
                x.let(0, frost);
                x.seed(seedFor(frost - 1));
                due("WHOLE", x.years(1), 0);
                due("z", x.count(3), 256 * (10 + frost - 1) + 7);
            });
            test(14, "FROST " + frost + " leaves a draw of " + frost, () -> stair(11), x -> {
                x.let(0, frost);
                x.seed(seedFor(frost));
                due("WHOLE", x.years(1), 1);
                due("z", x.count(3), 256 * (10 + frost) + 7);
            });
        }
        test(14, "a STEP may be taken in the YEAR in which it is cut, and is paid", x -> {
            x.let(0, 1);
            x.seed(seedFor(0));
            x.fine(0, 1, 39);
            due("WHOLE", x.years(1), 0);
            due("OWES", x.of(0, 1), 0);
            due("HIGH", x.placeOf(39, 2), STATE);
        });
        test(14, "one that FROST took is cut again", x -> {
            x.let(0, 1);
            x.seed(seedFor(0));
            x.fine(0, 2, 39);
            x.years(1);
            x.let(0, 0);
            due("WHOLE", x.years(1), 1);
            due("PLACE: it had not gone on", x.placeOf(39, 4), 1);
        });
    }

    /** A seed with which the first draw is that. */
    private static int seedFor(int draw) {
        return seedOf(256 * (10 + draw) + 7);
    }

    /** The seed that becomes that z: by the number that makes 1 of the factor, round as ints go. */
    private static int seedOf(int z) {
        int inverse = 1103515245;
        for (int i = 0; i < 5; i++) {
            inverse *= 2 - 1103515245 * inverse;
        }
        return (z - 12345) * inverse;
    }

    /** The z behind another, by longs, which don't go round here. */
    static int next(int z) {
        return (int) (z * 1103515245L + 12345L);
    }

    static int draw(int z) {
        return (int) ((z & 0xffffffffL) / 256 % 10);
    }

    private static void promise14draws() {
        int[] seeds = {0, 1, -1, 2, MIN, MAX, 1946, -1946, 1 << 30, -1000000001};
        for (int seed : seeds) {
            test(14, "z goes round from " + seed, () -> stair(11, 11, 0, 11), x -> {
                x.let(0, 4);
                x.seed(seed);
                int z = seed;
                long whole = 0;
                for (int place : new int[] {0, 1, 3}) {
                    z = next(z);
                    whole |= draw(z) >= 4 ? 1L << place : 0;
                }
                x.years(1);
                due("WHOLE", x.whole(), whole);
                due("z, of three draws", x.count(3), z);
            });
        }
        test(14, "a negative z is drawn from without its sign", () -> stair(11), x -> {
            // z becomes -1, and -1 >>> 8 is 16777215; with the sign the rest would be below FROST.
            x.let(0, 5);
            x.seed(seedOf(-1));
            due("WHOLE", x.years(1), 1);
            due("z", x.count(3), -1);
        });
        test(14, "PLACE 39 is drawn for last", Edges::allWhole, x -> {
            x.let(0, 9);
            int z = 5;
            for (int i = 0; i < 40; i++) {
                z = next(z);
            }
            x.seed(5);
            x.years(1);
            due("WHOLE", x.placeOf(39, 1), draw(z) >= 9 ? 1 : 0);
            due("z", x.count(3), z);
        });
    }

    private static void promise15() {
        test(15, "the least int, the greatest, 0, -1", x -> {
            due("1 at first", x.seed(MIN), 1);
            due("MIN", x.seed(MAX), MIN);
            due("MAX", x.seed(0), MAX);
            due("0", x.seed(-1), 0);
            due("-1", x.seed(-1), -1);
            due("findings", x.status(-1), 0);
        });
        for (long finding = SIZE; finding <= BEYOND; finding++) {
            int v = (int) finding;
            test(15, v + " is a z like others", x -> {
                x.seed(v);
                due("what it was", x.seed(3), v);
                due("findings", x.status(-1), 0);
            });
        }
        test(15, "z of the draws, not of the seed, is what it was", () -> stair(11), x -> {
            x.let(0, 1);
            x.seed(MAX);
            x.years(1);
            due("what it was", x.seed(0), next(MAX));
        });
    }

    private static void promise16() {
        range(16, "what", 0, 4, Edges::rich, (x, v) -> x.now(v));
        answers(16, "the first YEAR", 0, StairFines::new, x -> x.now(0));
        answers(16, "the last YEAR", 9999, () -> paidAt(9999), x -> x.now(0));
        answers(16, "none is WHOLE", 0, StairFines::new, x -> x.now(3));
        answers(16, "all are WHOLE", 40, Edges::allWhole, x -> x.now(3));
        answers(16, "nobody is there who OWES", 0, StairFines::new, x -> x.now(4));
        answers(16, "who is there OWES 0", 0, () -> paidAt(0), x -> x.now(4));
        test(16, "ten OWE 40 each", x -> {
            for (int fine = 0; fine < 10; fine++) {
                x.fine(4, 40, 0);
            }
            due("STEPS", x.now(4), 400);
        });
        test(16, "the least and the greatest FROST and MEETS", x -> {
            x.let(0, 9);
            x.let(1, 20);
            due("FROST", x.now(1), 9);
            due("MEETS", x.now(2), 20);
            x.let(0, 0);
            x.let(1, 0);
            due("FROST", x.now(1), 0);
            due("MEETS", x.now(2), 0);
        });
    }
}
