/**
 * What a call isn't said to change stays as it is, call by call. Questions change nothing at all; others are asked
 * there and back again, or held against another way to the same.
 */
final class KeepsTest extends Edges {
    private static final Look[] ALL_LOOKS = {Checks::seen, Edges::bytes, Edges::kept, Edges::sheets};
    private static final Look[] BUT_MOUNTAIN = {Edges::bytes, Edges::kept, Edges::sheets};
    private static final Look[] BUT_TAPE = {Edges::mountain, Edges::kept, Edges::sheets};
    private static final Look[] BUT_SHEETS = {Checks::seen, Edges::bytes, Edges::kept};
    private static final Look[] BUT_IMAGE = {Checks::seen, Edges::bytes, Edges::sheets};

    private KeepsTest() {
    }

    public static void main(String[] args) {
        test(1, "a new object leaves others as they are", KeepsTest::busy, x -> {
            String was = Checks.seen(x);
            new StairFines().fine(0, 1, 0);
            same("all is as it was", x, was);
        });
        questionsOfTheMountain();
        questionsOn();
        questionsWhere();
        thereAndBack();
        twoWays();
        mountainAlone();
        tapeAlone();
        sheetsAlone();
        imagesAlone();
        changes();
        changesOfPlaces();
        apart();
        brimful();
        end(1, 44);
    }

    /** Six FINES, of which each has WORK and an ARM of its own, in hard ROCK; the rest is as rich() makes it. */
    private static StairFines busy() {
        StairFines x = rich();
        x.let(0, 0);
        for (int fine = 0; fine < 6; fine++) {
            x.rock(33 + fine, 9);
            x.make(33 + fine, false, 0);
            x.set(fine, 2, 33 + fine);
            x.set(fine, 3, 1 + fine % 3);
        }
        x.years(1);
        x.make(0, true, 3);
        x.let(0, 1);
        return x;
    }

    /** The same where THE PASS can be reached: no FROST, and STEPS enough. */
    private static StairFines hopeful() {
        StairFines x = busy();
        x.let(0, 0);
        x.let(1, 20);
        x.set(0, 1, 40);
        x.set(5, 1, 1);
        return x;
    }

    private static void asks(int promise, String name, Maker maker, Call call) {
        leaves(promise, name + " changes nothing", maker, call, ALL_LOOKS);
    }

    // ---- questions

    private static void questionsOfTheMountain() {
        test(5, "each of six has WORK", KeepsTest::busy, x -> {
            for (int fine = 0; fine < 6; fine++) {
                due("FINE " + fine, x.of(fine, 4) > 0 ? 1 : 0, 1);
            }
        });
        for (int w = 0; w <= 7; w++) {
            int what = w;
            asks(5, "of(5, " + what + ")", KeepsTest::busy, x -> x.of(5, what));
        }
        asks(8, "as(5, 2)", KeepsTest::busy, x -> x.as(5, 2));
        for (int w = 0; w <= 4; w++) {
            int what = w;
            asks(9, "placeOf(0, " + what + ")", KeepsTest::busy, x -> x.placeOf(0, what));
            asks(16, "now(" + what + ")", KeepsTest::busy, x -> x.now(what));
        }
        asks(10, "whole()", KeepsTest::busy, x -> x.whole());
        asks(11, "make() of one that is WHOLE", KeepsTest::busy, x -> x.make(0, true, 5));
        asks(11, "make() of one that is broken", KeepsTest::busy, x -> x.make(38, false, 5));
        asks(12, "reach()", KeepsTest::busy, x -> x.reach());
        asks(13, "faults()", KeepsTest::busy, x -> x.faults());
        for (int w = 0; w <= 3; w++) {
            int what = w;
            asks(43, "count(" + what + ")", KeepsTest::busy, x -> x.count(what));
        }
        for (int w = -1; w <= 6; w++) {
            int which = w;
            asks(44, "status(" + which + ")", KeepsTest::busy, x -> x.status(which));
        }
    }

    private static void questionsOn() {
        for (int n : new int[] {0, 1, 200}) {
            asks(17, "on(" + n + ")", KeepsTest::busy, x -> x.on(n));
            asks(18, "reachOn(" + n + ")", KeepsTest::busy, x -> x.reachOn(n));
            asks(21, "farthest(" + n + ")", KeepsTest::busy, x -> x.farthest(n));
        }
        asks(19, "pass()", KeepsTest::hopeful, x -> x.pass());
        asks(20, "paid(5)", KeepsTest::hopeful, x -> x.paid(5));
        asks(39, "read() of what isn't", KeepsTest::busy, x -> x.read(0));
        asks(39, "read() of what is", () -> {
            StairFines x = busy();
            for (int i = 0; i < 40; i++) {
                x.write(0, i, x.reachOn(i));
            }
            return x;
        }, x -> x.read(0));
    }

    private static void questionsWhere() {
        for (int n : new int[] {1, 100}) {
            asks(22, "best(5, " + n + ")", KeepsTest::busy, x -> x.best(5, n));
            asks(23, "kind(5, " + n + ")", KeepsTest::busy, x -> x.kind(5, n));
        }
        asks(24, "mend()", KeepsTest::mendable, x -> x.mend());
        asks(25, "needed(6)", KeepsTest::hopeful, x -> x.needed(6));
        asks(26, "steepest()", KeepsTest::busy, x -> x.steepest());
        asks(27, "whose(20, 11)", KeepsTest::busy, x -> x.whose(20, 11));
        asks(28, "bears(200)", KeepsTest::hopeful, x -> x.bears(200));
        asks(29, "meetsFor(1)", KeepsTest::busy, x -> x.meetsFor(1));
        asks(30, "alone(5)", KeepsTest::busy, x -> x.alone(5));
    }

    private static StairFines mendable() {
        StairFines x = busy();
        x.make(0, false, 0);
        return x;
    }

    // ---- there and back

    private static void back(int promise, String name, Maker maker, Call call) {
        leaves(promise, name + " there and back", maker, call, ALL_LOOKS);
    }

    private static void thereAndBack() {
        for (int f = 0; f < 6; f++) {
            int fine = f;
            back(2, "ROCK where FINE " + fine + " is at work", KeepsTest::busy, x -> {
                x.rock(33 + fine, 1);
                return x.rock(33 + fine, 9);
            });
            back(6, "what FINE " + fine + " OWES", KeepsTest::busy, x -> x.set(fine, 1, x.set(fine, 1, 40)));
            back(6, "ARM of FINE " + fine, KeepsTest::busy, x -> x.set(fine, 3, x.set(fine, 3, 9)));
            back(7, "KIND of FINE " + fine, KeepsTest::busy, x -> x.turn(fine, x.turn(fine, (fine + 1) % 6)));
            back(11, "the PLACE of FINE " + fine, KeepsTest::busy, x -> {
                x.make(33 + fine, true, 5 - fine);
                return x.make(33 + fine, false, fine);
            });
        }
        back(2, "ROCK of a WHOLE PLACE", KeepsTest::busy, x -> x.rock(0, x.rock(0, 9)));
        back(3, "FROST", KeepsTest::busy, x -> x.let(0, x.let(0, 9)));
        back(3, "MEETS", KeepsTest::busy, x -> x.let(1, x.let(1, 20)));
        back(6, "PLACE of one without WORK", Edges::full, x -> x.set(9, 2, x.set(9, 2, 39)));
        back(15, "z", KeepsTest::busy, x -> x.seed(x.seed(MIN)));
        back(32, "THE TAPE", KeepsTest::busy, x -> {
            x.wipe();
            Checks.feed(x, "meets 3;rock 2 to 4 of 6");
            return 0;
        });
        back(34, "a sheet that is MISSING", KeepsTest::busy, x -> {
            x.sheet(3, 64, 40);
            return x.sheet(3, 0, 40);
        });
        back(35, "a number", KeepsTest::busy, x -> x.write(1, 4, x.write(1, 4, -1)));
        back(36, "numbers that come where they are", KeepsTest::busy, x -> x.copy(0, 0, 0, 0, 40));
        back(36, "no numbers", KeepsTest::busy, x -> x.copy(1, 5, 1, 0, 0));
    }

    // ---- another way to the same

    private static void alike(int promise, String name, Call one, Call other) {
        test(promise, name, KeepsTest::busy, x -> {
            x.wipe();
            one.ask(x);
            StairFines y = busy();
            y.wipe();
            other.ask(y);
            due("alike", Checks.seen(x).equals(Checks.seen(y)) ? 1 : 0, 1);
        });
    }

    private static void twoWays() {
        for (int k = 0; k < 6; k++) {
            int kind = k;
            String name = new String[] {"fine", "shared", "alms", "hasty", "feigned", "saintly"}[kind];
            alike(33, "court() makes a " + name + " as fine() does",
                x -> Checks.court(x, name + " 40 at 39"), x -> x.fine(kind, 40, 39));
        }
        alike(33, "court() lets ARM be as set() does", x -> Checks.court(x, "alms 1 at 0 arm 9"), x -> {
            x.fine(2, 1, 0);
            return x.set(6, 3, 9);
        });
        alike(33, "court() changes ROCK alone, as rock() does", x -> Checks.court(x, "rock 0 to 39 of 8"), x -> {
            for (int place = 0; place < 40; place++) {
                x.rock(place, 8);
            }
            return 0;
        });
        alike(33, "court() changes FROST alone, as let() does", x -> Checks.court(x, "frost 9"), x -> x.let(0, 9));
        alike(33, "court() changes MEETS alone, as let() does", x -> Checks.court(x, "meets 0"), x -> x.let(1, 0));
        alike(33, "ITEMS that ask for what is so change nothing",
            x -> Checks.court(x, "rock 33 to 38 of 9;frost 1;meets 7"), x -> 0);
        alike(33, "ITEMS ahead of a FAULT change nothing",
            x -> Checks.court(x, "fine 1 at 1;rock 0 to 39 of 1;frost 9;meets 9;meets 21"), x -> 0);
        alike(14, "three YEARS at once or one by one", x -> x.years(3), x -> x.years(1) + x.years(1) + x.years(1));
        alike(37, "lays() changes ROCK alone, as rock() does", x -> {
            x.sheet(0, 64, 40);
            for (int place = 0; place < 40; place++) {
                x.write(0, place, 8);
            }
            return x.lays(0);
        }, x -> {
            for (int place = 0; place < 40; place++) {
                x.rock(place, 8);
            }
            return 0;
        });
        alike(37, "lays() of none changes nothing", x -> {
            x.sheet(0, 16, 40);
            return x.lays(0);
        }, x -> 0);
        alike(4, "fine() leaves the others as they are", x -> {
            x.image();
            x.fine(5, 40, 39);
            return x.set(6, 1, 0);
        }, x -> Checks.court(x, "saintly 40 at 39") + x.set(6, 1, 0));
    }

    // ---- the four parts are apart

    private static void mountainAlone() {
        leaves(2, "rock()", KeepsTest::busy, x -> x.rock(39, 1), BUT_MOUNTAIN);
        leaves(3, "let() of FROST", KeepsTest::busy, x -> x.let(0, 5), BUT_MOUNTAIN);
        leaves(3, "let() of MEETS", KeepsTest::busy, x -> x.let(1, 5), BUT_MOUNTAIN);
        leaves(4, "fine()", KeepsTest::busy, x -> x.fine(5, 40, 39), BUT_MOUNTAIN);
        for (int w = 1; w <= 3; w++) {
            int what = w;
            leaves(6, "set() of " + what, KeepsTest::busy, x -> x.set(5, what, 9), BUT_MOUNTAIN);
        }
        leaves(7, "turn()", KeepsTest::busy, x -> x.turn(5, 0), BUT_MOUNTAIN);
        leaves(11, "make() that breaks", KeepsTest::busy, x -> x.make(0, false, 0), BUT_MOUNTAIN);
        leaves(11, "make() that makes", KeepsTest::busy, x -> x.make(38, true, 0), BUT_MOUNTAIN);
        leaves(14, "years(1)", KeepsTest::busy, x -> x.years(1), BUT_MOUNTAIN);
        leaves(14, "years(200)", KeepsTest::busy, x -> x.years(200), BUT_MOUNTAIN);
        leaves(15, "seed()", KeepsTest::busy, x -> x.seed(5), BUT_MOUNTAIN);
        leaves(37, "lays()", KeepsTest::busy, x -> x.lays(0), BUT_MOUNTAIN);
    }

    private static void tapeAlone() {
        leaves(31, "feed()", KeepsTest::busy, x -> x.feed(0x66696e65, 4), BUT_TAPE);
        leaves(32, "wipe()", KeepsTest::busy, x -> x.wipe(), BUT_TAPE);
        leaves(33, "court()", KeepsTest::busy, x -> x.court(), Edges::kept, Edges::sheets);
        leaves(33, "court() with a FAULT", KeepsTest::busy, x -> x.feed(';', 1) + x.court(), BUT_TAPE);
    }

    private static void sheetsAlone() {
        leaves(34, "sheet()", KeepsTest::busy, x -> x.sheet(0, 64, 40), BUT_SHEETS);
        leaves(34, "sheet() that becomes MISSING", KeepsTest::busy, x -> x.sheet(0, 0, 0), BUT_SHEETS);
        leaves(35, "write()", KeepsTest::busy, x -> x.write(0, 0, 9), BUT_SHEETS);
        leaves(36, "copy()", KeepsTest::busy, x -> x.copy(0, 0, 0, 5, 5), BUT_SHEETS);
        leaves(38, "stair(0)", KeepsTest::busy, x -> x.stair(0, 0), BUT_SHEETS);
        leaves(38, "stair(200)", KeepsTest::busy, x -> x.stair(0, 200), BUT_SHEETS);
        for (int s = 0; s < 4; s++) {
            int sheet = s;
            leaves(34, "sheet(" + sheet + ") and the other sheets", KeepsTest::four, x -> x.sheet(sheet, 8, 3), others(sheet));
            leaves(35, "write(" + sheet + ") and the other sheets", KeepsTest::four, x -> x.write(sheet, 1, 7), others(sheet));
            leaves(36, "copy() to " + sheet + " and the other sheets", KeepsTest::four,
                x -> x.copy((sheet + 1) % 4, 0, sheet, 1, 3), others(sheet));
            leaves(38, "stair(" + sheet + ") and the other sheets", KeepsTest::four, x -> x.stair(sheet, 1), others(sheet));
        }
    }

    /** Four sheets of 16 bits with numbers of their own. */
    private static StairFines four() {
        StairFines x = busy();
        for (int s = 0; s < 4; s++) {
            x.sheet(s, 16, 6);
            for (int i = 0; i < 6; i++) {
                x.write(s, i, 100 * s + i);
            }
        }
        return x;
    }

    /** Numbers of all sheets but one. */
    private static Look others(int but) {
        return x -> {
            StringBuilder told = new StringBuilder();
            for (int s = 0; s < 4; s++) {
                for (int i = 0; i < 6 && s != but; i++) {
                    told.append(x.write(s, i, 0)).append(' ');
                }
            }
            return told.toString();
        };
    }

    private static void imagesAlone() {
        leaves(40, "image()", KeepsTest::busy, x -> x.image(), BUT_IMAGE);
        leaves(41, "undo()", KeepsTest::busy, x -> x.undo(), BUT_MOUNTAIN);
        leaves(42, "tear()", KeepsTest::busy, x -> x.tear(), BUT_IMAGE);
        back(41, "what was kept just now", KeepsTest::keptNow, x -> x.undo());
    }

    private static StairFines keptNow() {
        StairFines x = busy();
        x.image();
        return x;
    }

    // ---- just what is said

    private static void changes() {
        changesJust(2, "ROCK where FINE 0 is", KeepsTest::busy, x -> x.rock(33, 1), "place 33 0", "fine 0 6");
        changesJust(2, "ROCK of a WHOLE PLACE", KeepsTest::busy, x -> x.rock(0, 9), "place 0 0");
        changesJust(3, "FROST", KeepsTest::busy, x -> x.let(0, 9), "now 1");
        changesJust(3, "MEETS", KeepsTest::busy, x -> x.let(1, 0), "now 2");
        changesJust(4, "a FINE", KeepsTest::busy, x -> x.fine(5, 40, 39), "count 0", "now 4", "fine 6 0", "fine 6 1",
            "fine 6 2", "fine 6 3", "fine 6 4", "fine 6 5", "fine 6 6", "fine 6 7");
        for (int f = 0; f < 6; f++) {
            String fine = "fine " + f + " ";
            int it = f;
            changesJust(6, "what FINE " + it + " OWES", KeepsTest::busy, x -> x.set(it, 1, 40), fine + 1, "now 4");
            changesJust(6, "PLACE of FINE " + it, KeepsTest::busy, x -> x.set(it, 2, (it + 1) % 6 + 33), fine + 2, fine + 4);
            changesJust(6, "ARM of FINE " + it, KeepsTest::busy, x -> x.set(it, 3, 9), fine + 3, fine + 5);
            changesJust(7, "KIND of FINE " + it, KeepsTest::busy, x -> x.turn(it, (it + 3) % 6), fine + 0, fine + 5, fine + 6);
        }
        changesJust(15, "z", KeepsTest::busy, x -> x.seed(MIN), "count 3");
        changesJust(14, "a YEAR in which all work and none cuts", KeepsTest::frostless, x -> x.years(1), "now 0",
            "fine 0 4", "fine 1 4", "fine 2 4", "fine 3 4", "fine 4 4", "fine 5 4");
        changesJust(14, "a YEAR in which FINE 3 cuts", KeepsTest::oneCuts, x -> x.years(1), "now 0", "now 3", "now 4",
            "count 2", "place 36 2", "place 36 3", "place 36 4", "fine 3 1", "fine 3 4", "fine 3 7");
        changesJust(14, "YEARS in which nobody OWES", KeepsTest::nobodyOwes, x -> x.years(200), "now 0");
        changesJust(37, "ROCK of PLACES 0 to 2", KeepsTest::busy, x -> {
            x.sheet(0, 8, 3);
            for (int i = 0; i < 3; i++) {
                x.write(0, i, 4 + i);
            }
            return x.lays(0);
        }, "place 0 0", "place 1 0", "place 2 0");
        changesJust(31, "bytes", KeepsTest::busy, x -> x.feed(0, 4), "count 1");
        changesJust(32, "no bytes", KeepsTest::busy, x -> x.wipe(), "count 1");
        changesJust(33, "ROCK of 2 to 4, MEETS and the tape", KeepsTest::busy, x -> x.court(), "count 1", "now 2",
            "place 2 0", "place 3 0", "place 4 0");
        changesJust(41, "back to what was kept, but for the tape", KeepsTest::keptNow, x -> {
            x.let(0, 7);
            x.wipe();
            return x.undo();
        }, "count 1");
    }

    private static void changesOfPlaces() {
        changesJust(11, "PLACE 33 made by FINE 4", KeepsTest::busy, x -> x.make(33, true, 4), "now 3", "count 2",
            "place 33 2", "place 33 3", "place 33 4", "fine 4 7");
        changesJust(11, "PLACE 0 broken, which FINE 3 cut", KeepsTest::busy, x -> x.make(0, false, 4), "now 3", "count 2",
            "place 0 2", "place 0 3", "place 0 4", "fine 3 7");
    }

    private static StairFines frostless() {
        StairFines x = busy();
        x.let(0, 0);
        return x;
    }

    /** FINE 3 alone OWES, and is about to cut 36. */
    private static StairFines oneCuts() {
        StairFines x = nobodyOwes();
        x.set(3, 1, 2);
        x.set(3, 3, 9);
        return x;
    }

    private static StairFines nobodyOwes() {
        StairFines x = frostless();
        for (int fine = 0; fine < 6; fine++) {
            x.set(fine, 1, 0);
        }
        return x;
    }

    /** Sheets, the tape and an image, of which the numbers tell if they are changed; they are made last. */
    private static StairFines lastly() {
        StairFines x = busy();
        x.sheet(3, 0, 0);
        x.sheet(2, 64, 2);
        x.write(2, 1, 1L << 40);
        x.sheet(1, 16, 5);
        x.write(1, 4, 65535);
        x.sheet(0, 8, 40);
        x.write(0, 39, 255);
        x.image();
        return x;
    }

    private static void apart(int promise, String name, Call call) {
        test(promise, name + ", and sheets, the tape and the image", KeepsTest::lastly, x -> {
            call.ask(x);
            due("sheet 3", x.lays(3), MISSING);
            due("sheets of 8 and 16 bits", x.copy(0, 0, 1, 0, 1), KIND);
            due("sheets of 16 and 64 bits", x.copy(1, 0, 2, 0, 1), KIND);
            due("sheet 0 has no more", x.write(0, 40, 0), BEYOND);
            due("sheet 1 has no more", x.write(1, 5, 0), BEYOND);
            due("sheet 2 has no more", x.write(2, 2, 0), BEYOND);
            due("255 of 8 bits", x.write(0, 39, 255), -1);
            due("it is of 8 bits still", x.write(0, 39, 0), -1);
            due("65535 of 16 bits", x.write(1, 4, 65535), -1);
            due("it is of 16 bits still", x.write(1, 4, 0), -1);
            due("2^40 of 64 bits", x.write(2, 1, 1L << 40), 1L << 40);
            due("it is of 64 bits still", x.write(2, 1, 0), 1L << 40);
            due("the tape", x.count(1), 24);
            due("its items", x.court(), 2);
            due("MEETS", x.now(2), 3);
            due("ROCK", x.placeOf(4, 0), 6);
            due("the image", x.undo(), 6);
            due("MEETS that was kept", x.now(2), 7);
            due("it is kept still", x.tear(), 1);
        });
    }

    private static void apart() {
        apart(2, "rock()", x -> x.rock(39, 1));
        apart(3, "let()", x -> x.let(0, 5) + x.let(1, 5));
        apart(4, "fine()", x -> x.fine(0, 1, 0));
        apart(5, "of()", x -> x.of(5, 5));
        apart(6, "set()", x -> x.set(5, 1, 0) + x.set(5, 2, 0) + x.set(5, 3, 9));
        apart(7, "turn()", x -> x.turn(5, 0));
        apart(8, "as()", x -> x.as(5, 2));
        apart(9, "placeOf()", x -> x.placeOf(0, 2));
        apart(10, "whole()", x -> x.whole());
        apart(11, "make()", x -> x.make(0, false, 0) + x.make(39, true, 0));
        apart(12, "reach()", x -> x.reach());
        apart(13, "faults()", x -> x.faults());
        apart(14, "years()", x -> x.years(200));
        apart(15, "seed()", x -> x.seed(7));
        apart(16, "now()", x -> x.now(0) + x.now(1) + x.now(2) + x.now(3) + x.now(4));
        apart(31, "feed()", x -> {
            x.wipe();
            Checks.feed(x, "meets 3;rock 2 to 4 of 6");
            return 0;
        });
        apart(34, "sheet()", x -> {
            x.sheet(3, 8, 40);
            return x.sheet(3, 0, 0);
        });
        apart(35, "write()", x -> x.write(0, 0, 9));
        apart(36, "copy()", x -> x.copy(0, 39, 0, 0, 1));
        apart(37, "lays()", x -> x.lays(0));
        apart(38, "stair()", x -> {
            x.stair(0, 9);
            return x.write(0, 39, 255);
        });
        apart(40, "image()", x -> x.image());
        apart(41, "undo()", x -> x.undo());
        apart(43, "count()", x -> x.count(0) + x.count(1) + x.count(2) + x.count(3));
    }

    // ---- with all that there can be

    /** Ten FINES, each with WORK AT 15 to 24; the first and the last PLACES are WHOLE, each cut otherwise. */
    private static StairFines brim() {
        StairFines x = new StairFines();
        for (int fine = 0; fine < 10; fine++) {
            x.fine(fine % 6, 30, 4 * fine);
            x.set(fine, 3, 9);
            x.rock(4 * fine, 1 + fine % 9);
            x.rock(15 + fine, 9);
        }
        x.years(1);
        x.make(39, true, 9);
        for (int fine = 0; fine < 10; fine++) {
            x.make(15 + fine, false, 0);
            x.set(fine, 2, 15 + fine);
            x.set(fine, 3, 1 + fine % 3);
        }
        x.years(1);
        x.make(1, true, 8);
        x.make(38, true, 7);
        return x;
    }

    /** All is made otherwise, as far as it can be in few calls. */
    private static long wreck(StairFines x) {
        for (int place : new int[] {0, 1, 38, 39}) {
            x.make(place, false, 0);
            x.rock(place, 2);
        }
        x.years(3);
        for (int place : new int[] {0, 1, 38, 39}) {
            x.make(place, true, 3);
        }
        for (int fine = 0; fine < 10; fine++) {
            x.turn(fine, (fine + 1) % 6);
            x.set(fine, 1, 2);
            x.set(fine, 2, 5);
            x.set(fine, 3, 7);
        }
        return x.let(0, 9) + x.let(1, 9) + x.seed(9);
    }

    private static void brimful() {
        test(40, "the first FINE and PLACE and the last are kept", KeepsTest::brim, x -> {
            x.image();
            wreck(x);
            x.undo();
            same("all is as it was", x, Checks.seen(brim()));
        });
        test(41, "the first FINE and PLACE and the last come back", KeepsTest::brim, x -> {
            String was = Checks.seen(brim());
            due("it was another", wreck(brim()) > 0 ? 1 : 0, 1);
            x.image();
            wreck(x);
            due("FINES", x.undo(), 10);
            same("all is as it was", x, was);
        });
        test(33, "court() leaves the first FINE and PLACE and the last as they are", KeepsTest::brim, x -> {
            Checks.court(x, "meets 4;frost 0");
            same("all is as it was", x, Checks.seen(brim()));
        });
        for (int f = 0; f < 10; f++) {
            int fine = f;
            test(17, "WORK of FINE " + fine + " counts", () -> allButWorked(fine), x -> {
                due("WHOLE ON 1", x.on(1), ALL);
                due("WHOLE now", x.whole(), ALL & ~(1L << 39 - fine));
            });
            test(18, "WORK of FINE " + fine + " counts", () -> allButWorked(fine), x -> due("REACH", x.reachOn(1), 40));
            test(38, "WORK of FINE " + fine + " counts", () -> allButWorked(fine), x -> {
                x.sheet(0, 8, 40);
                x.stair(0, 1);
                due("HIGH", x.write(0, 39 - fine, 0), 17);
            });
        }
    }

    /** Of ten FINES one alone OWES; it has WORK 8 in ROCK 9, in the last PLACE that isn't WHOLE. */
    private static StairFines allButWorked(int fine) {
        StairFines x = allBut(39 - fine);
        for (int other = 1; other < 10; other++) {
            x.fine(0, 1, 0);
            x.set(other, 1, 0);
        }
        x.rock(39 - fine, 9);
        x.let(1, 20);
        x.set(fine, 1, 1);
        x.set(fine, 2, 39 - fine);
        x.set(fine, 3, 1);
        x.years(8);
        return x;
    }
}
