/** Boundary cases of promises 34 to 39: sheets. */
final class EdgesSheetTest extends Edges {
    private EdgesSheetTest() {
    }

    public static void main(String[] args) {
        promise34();
        promise34missing();
        promise35();
        promise35goesRound();
        promise36();
        promise36findings();
        promise37();
        promise38();
        promise38late();
        promise39();
        end(34, 39);
    }

    /** The sheet has these numbers and no more. */
    private static void holds(StairFines x, int s, long... numbers) {
        for (int i = 0; i < numbers.length; i++) {
            long was = x.write(s, i, 0);
            due("number " + i + " of sheet " + s, was, numbers[i]);
            x.write(s, i, was);
        }
        due("no number " + numbers.length + " of sheet " + s, x.write(s, numbers.length, 0), BEYOND);
    }

    // ---- sheet

    private static void promise34() {
        range(34, "sheet", 0, 3, Edges::rich, (x, v) -> x.sheet(v, 8, 3));
        range(34, "sheet, MISSING", 0, 3, Edges::rich, (x, v) -> x.sheet(v, 0, 0));
        for (int bits : new int[] {8, 16, 64}) {
            answers(34, "0 numbers of " + bits, 0, StairFines::new, x -> x.sheet(3, bits, 0));
            answers(34, "40 numbers of " + bits, 40, StairFines::new, x -> x.sheet(3, bits, 40));
            refused(34, "-1 numbers of " + bits, SIZE, Edges::rich, x -> x.sheet(0, bits, -1));
            refused(34, "MIN numbers of " + bits, SIZE, Edges::rich, x -> x.sheet(0, bits, MIN));
            refused(34, "41 numbers of " + bits, BEYOND, Edges::rich, x -> x.sheet(0, bits, 41));
            refused(34, "MAX numbers of " + bits, BEYOND, Edges::rich, x -> x.sheet(0, bits, MAX));
            test(34, "40 numbers of " + bits + " are all 0", x -> {
                x.sheet(0, bits, 40);
                for (int i = 0; i < 40; i++) {
                    due("number " + i, x.write(0, i, -1), 0);
                }
                due("no number 40", x.write(0, 40, 0), BEYOND);
                x.sheet(0, bits, 40);
                for (int i = 0; i < 40; i++) {
                    due("number " + i + " again", x.write(0, i, 0), 0);
                }
            });
            test(34, "0 numbers of " + bits + " aren't MISSING", x -> {
                x.sheet(0, bits, 0);
                due("none came", x.lays(0), 0);
                due("no number 0", x.write(0, 0, 0), BEYOND);
            });
        }
        for (int bits : new int[] {-64, -8, -1, 1, 4, 7, 9, 15, 17, 32, 63, 65, 128, MIN, MAX}) {
            refused(34, bits + " bits", BEYOND, Edges::rich, x -> x.sheet(0, bits, 3));
            refused(34, bits + " bits and -1 numbers: BEYOND first", BEYOND, Edges::rich, x -> x.sheet(0, bits, -1));
        }
        for (int s : new int[] {-1, 4}) {
            refused(34, "sheet " + s + " of -1 numbers: BEYOND first", BEYOND, Edges::rich, x -> x.sheet(s, 8, -1));
            refused(34, "sheet " + s + " MISSING of -1: BEYOND first", BEYOND, Edges::rich, x -> x.sheet(s, 0, -1));
        }
        test(34, "fewer, then more: those behind are 0", x -> {
            x.sheet(0, 64, 5);
            x.write(0, 4, 9);
            x.sheet(0, 64, 2);
            x.sheet(0, 64, 5);
            holds(x, 0, 0, 0, 0, 0, 0);
        });
        test(34, "sheets are apart", x -> {
            x.sheet(0, 64, 1);
            x.sheet(1, 64, 2);
            x.write(0, 0, 7);
            x.write(1, 0, 8);
            x.sheet(2, 64, 3);
            holds(x, 0, 7);
            holds(x, 1, 8, 0);
            due("the last is MISSING", x.lays(3), MISSING);
        });
    }

    private static void promise34missing() {
        answers(34, "MISSING of 0: 0", 0, Edges::rich, x -> x.sheet(0, 0, 0));
        answers(34, "MISSING of 40: 0", 0, Edges::rich, x -> x.sheet(0, 0, 40));
        answers(34, "MISSING what is MISSING", 0, Edges::rich, x -> x.sheet(3, 0, 1));
        refused(34, "MISSING of -1", SIZE, Edges::rich, x -> x.sheet(0, 0, -1));
        refused(34, "MISSING of MIN", SIZE, Edges::rich, x -> x.sheet(0, 0, MIN));
        refused(34, "MISSING of 41", BEYOND, Edges::rich, x -> x.sheet(0, 0, 41));
        refused(34, "MISSING of MAX", BEYOND, Edges::rich, x -> x.sheet(0, 0, MAX));
        test(34, "it is MISSING then, be it of 40", Edges::rich, x -> {
            x.sheet(0, 0, 40);
            due("write", x.write(0, 0, 1), MISSING);
        });
        test(34, "it comes back with all 0", Edges::rich, x -> {
            x.sheet(1, 0, 5);
            x.sheet(1, 16, 5);
            holds(x, 1, 0, 0, 0, 0, 0);
        });
    }

    // ---- write

    private static void promise35() {
        range(35, "sheet", 0, 3, EdgesSheetTest::four, (x, v) -> x.write(v, 0, 5));
        range(35, "number of forty", 0, 39, Edges::rich, (x, v) -> x.write(0, v, 9));
        range(35, "number of five", 0, 4, Edges::rich, (x, v) -> x.write(1, v, 9));
        refused(35, "a sheet of 0 numbers has no number 0", BEYOND, Edges::rich, x -> x.write(2, 0, 9));
        refused(35, "nor number -1", BEYOND, Edges::rich, x -> x.write(2, -1, 9));
        refused(35, "MISSING", MISSING, Edges::rich, x -> x.write(3, 0, 9));
        for (int i : new int[] {-1, 40, MIN, MAX}) {
            refused(35, "MISSING, number " + i + ": MISSING first", MISSING, Edges::rich, x -> x.write(3, i, 9));
            refused(35, "no such sheet, number " + i, BEYOND, Edges::rich, x -> x.write(4, i, 9));
        }
        test(35, "a finding of a long is the same number", Edges::rich, x -> {
            due("BEYOND", x.write(0, 40, 0), -1000000001L);
            due("MISSING", x.write(3, 0, 0), -1000000006L);
        });
        test(35, "the first and the last alone change", Edges::rich, x -> {
            due("the first", x.write(1, 0, 1), 300);
            due("the last", x.write(1, 4, 2), 304);
            holds(x, 1, 1, 301, 302, 303, 2);
        });
    }

    private static StairFines four() {
        StairFines x = rich();
        x.sheet(2, 64, 1);
        x.sheet(3, 8, 1);
        return x;
    }

    /** What was written, and what it is then. */
    private static void kept(int bits, long v, long want) {
        test(35, v + " in " + bits + " bits", x -> {
            x.sheet(0, bits, 1);
            due("0 at first", x.write(0, 0, v), 0);
            due("what it was", x.write(0, 0, 0), want);
            due("findings", x.status(-1), 0);
        });
    }

    private static void promise35goesRound() {
        long[][] of8 = {{0, 0}, {1, 1}, {127, 127}, {128, -128}, {255, -1}, {256, 0}, {257, 1}, {-1, -1}, {-128, -128},
            {-129, 127}, {-256, 0}, {Long.MAX_VALUE, -1}, {Long.MIN_VALUE, 0}, {65535, -1}, {4294967296L, 0}};
        for (long[] row : of8) {
            kept(8, row[0], row[1]);
        }
        long[][] of16 = {{0, 0}, {255, 255}, {256, 256}, {32767, 32767}, {32768, -32768}, {65535, -1}, {65536, 0},
            {65537, 1}, {-1, -1}, {-32768, -32768}, {-32769, 32767}, {Long.MAX_VALUE, -1}, {Long.MIN_VALUE, 0}};
        for (long[] row : of16) {
            kept(16, row[0], row[1]);
        }
        long[] of64 = {0, -1, 4294967296L, 2147483648L, -2147483649L, Long.MAX_VALUE, Long.MIN_VALUE};
        for (long v : of64) {
            kept(64, v, v);
        }
        for (long finding = SIZE; finding <= BEYOND; finding++) {
            kept(64, finding, finding);
        }
    }

    // ---- copy

    /** Sheets 0 and 1 of 16 bits have 5 and 3 numbers, sheet 2 of 8 bits has 5, and sheet 3 is MISSING. */
    private static StairFines copies() {
        StairFines x = rich();
        x.sheet(0, 16, 5);
        x.sheet(1, 16, 3);
        x.sheet(2, 8, 5);
        for (int i = 0; i < 5; i++) {
            x.write(0, i, 1000 + i);
            x.write(2, i, 30 + i);
        }
        for (int i = 0; i < 3; i++) {
            x.write(1, i, 2000 + i);
        }
        return x;
    }

    private static void promise36() {
        test(36, "none", EdgesSheetTest::copies, x -> {
            due("n", x.copy(0, 0, 1, 0, 0), 0);
            holds(x, 1, 2000, 2001, 2002);
        });
        test(36, "none, just behind the last of either", EdgesSheetTest::copies, x -> {
            due("n", x.copy(0, 5, 1, 3, 0), 0);
            holds(x, 0, 1000, 1001, 1002, 1003, 1004);
            holds(x, 1, 2000, 2001, 2002);
        });
        test(36, "all there is place for", EdgesSheetTest::copies, x -> {
            due("n", x.copy(0, 2, 1, 0, 3), 3);
            holds(x, 1, 1002, 1003, 1004);
            holds(x, 0, 1000, 1001, 1002, 1003, 1004);
        });
        test(36, "the last to the last", EdgesSheetTest::copies, x -> {
            due("n", x.copy(0, 4, 1, 2, 1), 1);
            holds(x, 1, 2000, 2001, 1004);
        });
        test(36, "on itself, forwards, as they all were", EdgesSheetTest::copies, x -> {
            due("n", x.copy(0, 0, 0, 1, 4), 4);
            holds(x, 0, 1000, 1000, 1001, 1002, 1003);
        });
        test(36, "on itself, backwards, as they all were", EdgesSheetTest::copies, x -> {
            due("n", x.copy(0, 1, 0, 0, 4), 4);
            holds(x, 0, 1001, 1002, 1003, 1004, 1004);
        });
        test(36, "on itself, where it is", EdgesSheetTest::copies, x -> {
            due("n", x.copy(0, 0, 0, 0, 5), 5);
            holds(x, 0, 1000, 1001, 1002, 1003, 1004);
        });
        test(36, "forty from the first sheet to the last", x -> {
            x.sheet(0, 64, 40);
            x.sheet(3, 64, 40);
            for (int i = 0; i < 40; i++) {
                x.write(0, i, Long.MIN_VALUE + i);
            }
            due("n", x.copy(0, 0, 3, 0, 40), 40);
            for (int i = 0; i < 40; i++) {
                due("number " + i, x.write(3, i, 0), Long.MIN_VALUE + i);
            }
        });
        test(36, "sheets of 0 numbers", x -> {
            x.sheet(0, 8, 0);
            x.sheet(1, 8, 0);
            due("none", x.copy(0, 0, 1, 0, 0), 0);
            due("one", x.copy(0, 0, 1, 0, 1), BEYOND);
        });
    }

    private static void promise36findings() {
        Maker m = EdgesSheetTest::copies;
        for (int s : new int[] {-1, 4, MIN, MAX}) {
            refused(36, "from sheet " + s, BEYOND, m, x -> x.copy(s, 0, 0, 0, 1));
            refused(36, "to sheet " + s, BEYOND, m, x -> x.copy(0, 0, s, 0, 1));
            refused(36, "from sheet " + s + " to a MISSING one: BEYOND first", BEYOND, m, x -> x.copy(s, 0, 3, 0, 1));
            refused(36, "from a MISSING one to sheet " + s + ": BEYOND first", BEYOND, m, x -> x.copy(3, 0, s, 0, 1));
        }
        refused(36, "from a MISSING one", MISSING, m, x -> x.copy(3, 0, 0, 0, 1));
        refused(36, "to a MISSING one", MISSING, m, x -> x.copy(0, 0, 3, 0, 1));
        refused(36, "from a MISSING one to itself, none", MISSING, m, x -> x.copy(3, 0, 3, 0, 0));
        refused(36, "from a MISSING one: ahead of BEYOND", MISSING, m, x -> x.copy(3, -1, 0, 9, -1));
        refused(36, "to a MISSING one: ahead of BEYOND", MISSING, m, x -> x.copy(0, -1, 3, 9, -1));
        refused(36, "16 to 8 bits", KIND, m, x -> x.copy(0, 0, 2, 0, 1));
        refused(36, "8 to 16 bits", KIND, m, x -> x.copy(2, 0, 0, 0, 1));
        refused(36, "8 to 16 bits, none", KIND, m, x -> x.copy(2, 0, 0, 0, 0));
        refused(36, "8 to 16 bits: ahead of BEYOND", KIND, m, x -> x.copy(2, -1, 0, 9, -1));
        refused(36, "8 to 64 bits", KIND, Edges::rich, x -> x.copy(0, 0, 2, 0, 0));
        refused(36, "16 to 64 bits", KIND, Edges::rich, x -> x.copy(1, 0, 2, 0, 0));
        refused(36, "from has one too few", BEYOND, m, x -> x.copy(0, 3, 1, 0, 3));
        refused(36, "to has one too few", BEYOND, m, x -> x.copy(0, 0, 1, 1, 3));
        refused(36, "from has one too few, all", BEYOND, m, x -> x.copy(1, 0, 0, 0, 4));
        refused(36, "to has one too few, all", BEYOND, m, x -> x.copy(0, 0, 1, 0, 4));
        refused(36, "none from behind the end", BEYOND, m, x -> x.copy(0, 6, 1, 0, 0));
        refused(36, "none to behind the end", BEYOND, m, x -> x.copy(0, 0, 1, 4, 0));
        for (int v : new int[] {-1, MIN}) {
            refused(36, "from " + v, BEYOND, m, x -> x.copy(0, v, 1, 0, 1));
            refused(36, "from " + v + ", none", BEYOND, m, x -> x.copy(0, v, 1, 0, 0));
            refused(36, "to " + v, BEYOND, m, x -> x.copy(0, 0, 1, v, 1));
            refused(36, "to " + v + ", none", BEYOND, m, x -> x.copy(0, 0, 1, v, 0));
            refused(36, v + " numbers", BEYOND, m, x -> x.copy(0, 1, 1, 1, v));
        }
        refused(36, "from MAX", BEYOND, m, x -> x.copy(0, MAX, 1, 0, 1));
        refused(36, "to MAX", BEYOND, m, x -> x.copy(0, 0, 1, MAX, 1));
        refused(36, "MAX numbers", BEYOND, m, x -> x.copy(0, 1, 1, 1, MAX));
        refused(36, "MAX from MAX to MAX, which goes round", BEYOND, m, x -> x.copy(0, MAX, 1, MAX, MAX));
        refused(36, "MAX numbers from 2, which goes round", BEYOND, m, x -> x.copy(0, 2, 0, 2, MAX));
    }

    // ---- lays

    private static void promise37() {
        range(37, "sheet", 0, 3, EdgesSheetTest::four, (x, v) -> x.lays(v));
        refused(37, "MISSING", MISSING, Edges::rich, x -> x.lays(3));
        answers(37, "a sheet of 0 numbers", 0, Edges::rich, x -> x.lays(2));
        answers(37, "forty that are 0", 0, () -> {
            StairFines x = new StairFines();
            x.sheet(0, 8, 40);
            return x;
        }, x -> x.lays(0));
        test(37, "forty that come", x -> {
            x.sheet(0, 16, 40);
            for (int i = 0; i < 40; i++) {
                x.write(0, i, 1 + i % 9);
            }
            due("how many", x.lays(0), 40);
            for (int i = 0; i < 40; i++) {
                due("ROCK of " + i, x.placeOf(i, 0), 1 + i % 9);
            }
        });
        laid(64, new long[] {1, 9}, new int[] {1, 9});
        laid(64, new long[] {0, 10, -1, 3}, new int[] {3, 3, 3, 3});
        laid(64, new long[] {4294967297L, Long.MIN_VALUE + 1, Long.MAX_VALUE, 256 + 5}, new int[] {3, 3, 3, 3});
        laid(8, new long[] {257, 256, 265, 266, 127, 128, 255}, new int[] {1, 3, 9, 3, 3, 3, 3});
        laid(16, new long[] {65537, 65536, 65545, 65546, 257}, new int[] {1, 3, 9, 3, 3});
        test(37, "those that are left out leave ROCK as it is", x -> {
            x.rock(0, 7);
            x.rock(2, 8);
            x.sheet(0, 8, 2);
            x.write(0, 0, 10);
            due("how many", x.lays(0), 0);
            due("ROCK of 0", x.placeOf(0, 0), 7);
            due("ROCK of 2, behind its end", x.placeOf(2, 0), 8);
        });
        test(37, "the sheet is as it was", Edges::rich, x -> {
            due("how many", x.lays(1), 0);
            holds(x, 1, 300, 301, 302, 303, 304);
        });
    }

    private static void laid(int bits, long[] numbers, int[] rocks) {
        test(37, "numbers from " + numbers[0] + " of " + bits + " bits", x -> {
            x.sheet(0, bits, numbers.length);
            int come = 0;
            for (int i = 0; i < numbers.length; i++) {
                long was = numbers[i];
                x.write(0, i, was);
                long is = bits == 64 ? was : was & (1L << bits) - 1;
                come += is >= 1 && is <= 9 ? 1 : 0;
            }
            due("how many", x.lays(0), come);
            for (int i = 0; i < rocks.length; i++) {
                due("ROCK of " + i, x.placeOf(i, 0), rocks[i]);
            }
            due("ROCK behind", x.placeOf(rocks.length, 0), 3);
        });
    }

    // ---- stair

    private static void promise38() {
        range(38, "sheet", 0, 3, EdgesSheetTest::four, (x, v) -> x.stair(v, 3));
        range(38, "n", 0, 200, Edges::rich, (x, v) -> x.stair(0, v));
        refused(38, "MISSING", MISSING, Edges::rich, x -> x.stair(3, 0));
        for (int n : new int[] {-1, 201, MIN, MAX}) {
            refused(38, "MISSING, n " + n + ": MISSING first", MISSING, Edges::rich, x -> x.stair(3, n));
            refused(38, "a sheet of 0 numbers, n " + n, BEYOND, Edges::rich, x -> x.stair(2, n));
        }
        answers(38, "a sheet of 0 numbers", 0, Edges::rich, x -> x.stair(2, 200));
        answers(38, "a sheet of 40 numbers", 40, Edges::rich, x -> x.stair(0, 0));
        answers(38, "a sheet of 5 numbers", 5, Edges::rich, x -> x.stair(1, 0));
        test(38, "0 of those not WHOLE, which it was not ahead", () -> stair(7, 0, 25), x -> {
            x.sheet(0, 8, 4);
            for (int i = 0; i < 4; i++) {
                x.write(0, i, 99);
            }
            due("how many", x.stair(0, 0), 4);
            holds(x, 0, 7, 0, 25, 0);
        });
        test(38, "the last PLACE comes to the last number", () -> allBut(0), x -> {
            x.sheet(0, 64, 40);
            due("how many", x.stair(0, 0), 40);
            due("number 0", x.write(0, 0, 0), 0);
            due("number 1", x.write(0, 1, 0), 10);
            due("number 39", x.write(0, 39, 0), 10);
        });
        test(38, "a broken one is 0", () -> stair(11, 12), x -> {
            x.make(0, false, 0);
            x.sheet(0, 16, 2);
            x.stair(0, 0);
            holds(x, 0, 0, 12);
        });
        test(38, "0, 1, 2 YEARS on", x -> {
            x.fine(3, 2, 0);
            x.sheet(0, 8, 2);
            x.stair(0, 0);
            holds(x, 0, 0, 0);
            x.stair(0, 1);
            holds(x, 0, 16, 0);
            x.stair(0, 2);
            holds(x, 0, 16, 16);
            due("nothing is WHOLE now", x.whole(), 0);
            due("YEAR", x.now(0), 0);
            due("OWES", x.of(0, 1), 2);
        });
        test(38, "FROST draws as it will", Edges::rich, x -> {
            x.let(0, 3);
            int z = x.count(3);
            x.stair(0, 7);
            due("z is as it was", x.count(3), z);
            x.years(7);
            for (int place = 0; place < 40; place++) {
                int high = x.placeOf(place, 1) == 1 ? x.placeOf(place, 2) : 0;
                due("number " + place, x.write(0, place, 0), high);
            }
        });
    }

    private static void promise38late() {
        int[][] taken = {{9799, 200}, {9800, 199}, {9998, 1}, {9999, 0}};
        for (int[] row : taken) {
            answers(38, row[1] + " from YEAR " + row[0], 40, () -> richAt(row[0]), x -> x.stair(0, row[1]));
        }
        int[][] state = {{9800, 200}, {9999, 1}, {9999, 200}};
        for (int[] row : state) {
            refused(38, row[1] + " from YEAR " + row[0], STATE, () -> richAt(row[0]), x -> x.stair(0, row[1]));
            refused(38, row[1] + " from YEAR " + row[0] + ", 0 numbers", STATE, () -> richAt(row[0]), x -> x.stair(2, row[1]));
        }
        refused(38, "MISSING at YEAR 9999: MISSING first", MISSING, () -> richAt(9999), x -> x.stair(3, 1));
        refused(38, "no such sheet at YEAR 9999: BEYOND first", BEYOND, () -> richAt(9999), x -> x.stair(4, 1));
        refused(38, "201 at YEAR 9999: BEYOND first", BEYOND, () -> richAt(9999), x -> x.stair(0, 201));
        refused(38, "-1 at YEAR 9999: BEYOND first", BEYOND, () -> richAt(9999), x -> x.stair(0, -1));
    }

    // ---- read

    /** REACH ON 0 to 39 YEARS is in sheet 0, and ON 0 in sheet 1. */
    private static StairFines reader() {
        StairFines x = rich();
        x.let(0, 2);
        for (int i = 0; i < 40; i++) {
            x.write(0, i, x.reachOn(i));
        }
        x.sheet(1, 64, 1);
        x.write(1, 0, x.reach());
        return x;
    }

    private static void promise39() {
        range(39, "sheet", 0, 3, EdgesSheetTest::four, (x, v) -> x.read(v));
        refused(39, "MISSING", MISSING, Edges::rich, x -> x.read(3));
        answers(39, "a sheet of 0 numbers", 0, Edges::rich, x -> x.read(2));
        answers(39, "all forty are", 0, EdgesSheetTest::reader, x -> x.read(0));
        answers(39, "the only one is", 0, EdgesSheetTest::reader, x -> x.read(1));
        for (int n : new int[] {0, 1, 39}) {
            test(39, "a sheet of " + n + " numbers has no more, though REACH goes on", Edges::allWhole, x -> {
                x.sheet(0, 16, n);
                for (int i = 0; i < n; i++) {
                    x.write(0, i, 40);
                }
                due("all are", x.read(0), 0);
            });
        }
        for (int i : new int[] {0, 1, 38, 39}) {
            test(39, "number " + i + " isn't", EdgesSheetTest::reader, x -> {
                x.write(0, i, 41);
                due("1 and its place", x.read(0), 1 + i);
            });
        }
        test(39, "two aren't: the first", EdgesSheetTest::reader, x -> {
            x.write(0, 39, -1);
            x.write(0, 17, -1);
            due("1 and its place", x.read(0), 18);
        });
        test(39, "the only one isn't, by its high bits", EdgesSheetTest::reader, x -> {
            long was = x.write(1, 0, 0);
            x.write(1, 0, was + 4294967296L);
            due("1 and its place", x.read(1), 1);
        });
        test(39, "nothing changes", EdgesSheetTest::reader, x -> {
            x.read(0);
            same("all is as it was", x, Checks.seen(reader()));
            due("it reads so again", x.read(0), 0);
        });
        answers(39, "YEAR 9959", 0, () -> richAt(9959), x -> x.read(2));
        refused(39, "YEAR 9960, a sheet of 0 numbers", STATE, () -> richAt(9960), x -> x.read(2));
        refused(39, "YEAR 9960, the first number isn't", STATE, () -> richAt(9960), x -> x.read(1));
        refused(39, "YEAR 9999", STATE, () -> richAt(9999), x -> x.read(0));
        refused(39, "YEAR 9960, MISSING first", MISSING, () -> richAt(9960), x -> x.read(3));
        refused(39, "YEAR 9960, no such sheet: BEYOND first", BEYOND, () -> richAt(9960), x -> x.read(4));
        refused(39, "YEAR 9960, sheet -1: BEYOND first", BEYOND, () -> richAt(9960), x -> x.read(-1));
        test(39, "forty numbers at YEAR 9959", x -> {
            Checks.goTo(x, 9959);
            x.fine(0, 40, 0);
            x.sheet(0, 8, 40);
            for (int i = 0; i < 40; i++) {
                x.write(0, i, i);
            }
            due("all are", x.read(0), 0);
            x.write(0, 39, 40);
            due("the last isn't", x.read(0), 40);
        });
    }
}
