/** Boundary cases of promises 40 to 44: image, undo, tear, count, status. */
final class EdgesImageTest extends Edges {
    private EdgesImageTest() {
    }

    public static void main(String[] args) {
        promise40();
        promise41();
        promise42();
        promise43();
        promise44();
        promise44other();
        end(40, 44);
    }

    // ---- image

    private static void promise40() {
        answers(40, "of nothing", 1, StairFines::new, x -> x.image());
        answers(40, "where one is kept", 1, Edges::rich, x -> x.image());
        answers(40, "of ten FINES", 1, Edges::full, x -> x.image());
        answers(40, "at the last YEAR", 1, () -> richAt(9999), x -> x.image());
        test(40, "nothing else changes", Edges::rich, x -> {
            x.image();
            same("all is as it was", x, Checks.seen(rich()));
            due("numbers", x.write(1, 4, 0), 304);
        });
        test(40, "of nothing: all is as at first", x -> {
            String was = Checks.seen(x);
            x.image();
            x.fine(4, 9, 0);
            x.let(0, 3);
            x.let(1, 9);
            x.rock(39, 9);
            x.years(9);
            due("no FINES", x.undo(), 0);
            same("all is as at first", x, was);
        });
        test(40, "the latest alone is kept", x -> {
            x.fine(0, 1, 0);
            x.image();
            x.fine(0, 1, 0);
            x.image();
            x.fine(0, 1, 0);
            due("undo", x.undo(), 2);
            due("undo again: the earlier one is gone", x.undo(), 2);
        });
        test(40, "THE TAPE isn't kept", x -> {
            Checks.feed(x, "frost 7");
            x.image();
            x.wipe();
            Checks.feed(x, "frost 5;meets 1");
            x.undo();
            due("bytes", x.count(1), 15);
            due("items", x.court(), 2);
            due("FROST", x.now(1), 5);
        });
        test(40, "an empty TAPE isn't kept", x -> {
            x.image();
            x.feed(0, 1);
            x.undo();
            due("bytes", x.count(1), 1);
        });
        test(40, "sheets aren't kept", x -> {
            x.sheet(0, 8, 3);
            x.sheet(1, 8, 3);
            x.image();
            x.write(0, 0, 5);
            x.sheet(1, 0, 0);
            x.sheet(2, 16, 1);
            x.undo();
            due("a number", x.write(0, 0, 0), 5);
            due("MISSING", x.lays(1), MISSING);
            due("a new one", x.lays(2), 0);
        });
        test(40, "what comes later doesn't change what is kept", Edges::rich, x -> {
            x.image();
            String was = Checks.seen(x);
            x.years(50);
            x.pass();
            x.best(4, 50);
            x.wipe();
            Checks.court(x, "rock 0 to 39 of 9;fine 3 at 3");
            x.undo();
            Checks.feed(x, "meets 3;rock 2 to 4 of 6");
            same("all is as it was", x, was);
        });
    }

    // ---- undo

    private static void promise41() {
        refused(41, "nothing is kept", NONE, StairFines::new, x -> x.undo());
        refused(41, "what was kept is torn", NONE, () -> {
            StairFines x = rich();
            x.tear();
            return x;
        }, x -> x.undo());
        answers(41, "no FINES", 0, () -> {
            StairFines x = new StairFines();
            x.image();
            return x;
        }, x -> x.undo());
        test(41, "ten FINES", Edges::full, x -> {
            x.image();
            String was = Checks.seen(x);
            x.years(200);
            due("FINES", x.undo(), 10);
            same("all is as it was", x, was);
        });
        test(41, "it stays: twice", Edges::rich, x -> {
            due("once", x.undo(), 6);
            String was = Checks.seen(x);
            x.years(3);
            x.fine(0, 1, 0);
            due("twice", x.undo(), 6);
            same("all is as it was", x, was);
        });
        test(41, "from the last YEAR to the first", x -> {
            x.image();
            Checks.goTo(x, 9999);
            due("no more YEARS", x.years(1), STATE);
            x.undo();
            due("YEAR", x.now(0), 0);
            due("YEARS again", x.years(1), 0);
        });
        test(41, "from the first YEAR to the last", () -> paidAt(9999), x -> {
            x.image();
            due("no more YEARS", x.undo() + x.years(1), 1 + STATE);
        });
        test(41, "from ten FINES to nine: another may come", x -> {
            for (int fine = 0; fine < 9; fine++) {
                x.fine(0, 1, 0);
            }
            x.image();
            due("the tenth", x.fine(4, 40, 39), 9);
            due("FULL", x.fine(0, 1, 0), FULL);
            due("undo", x.undo(), 9);
            due("there is no tenth", x.of(9, 0), BEYOND);
            due("the tenth", x.fine(5, 2, 3), 9);
            due("KIND", x.of(9, 0), 5);
        });
        test(41, "z, with the same draws again", Edges::allWhole, x -> {
            x.let(0, 2);
            x.seed(MIN);
            x.image();
            x.years(5);
            long whole = x.whole();
            x.undo();
            due("z", x.count(3), MIN);
            x.years(5);
            due("WHOLE", x.whole(), whole);
        });
        test(41, "HIGH, CUTTER and the YEAR of the WHOLE ones", () -> stair(25, 7), x -> {
            x.fine(0, 1, 9);
            x.image();
            String was = Checks.seen(x);
            for (int place = 0; place < 2; place++) {
                x.make(place, false, 0);
                x.make(place, true, 1);
            }
            x.undo();
            same("all is as it was", x, was);
        });
        test(41, "WORK, ARM and what it OWES", x -> {
            x.rock(5, 9);
            x.fine(0, 7, 5);
            x.years(2);
            x.image();
            String was = Checks.seen(x);
            x.set(0, 1, 0);
            x.set(0, 2, 39);
            x.set(0, 3, 9);
            x.turn(0, 5);
            x.undo();
            same("all is as it was", x, was);
        });
        test(41, "nothing of status() is taken back", x -> {
            x.image();
            x.rock(40, 1);
            x.undo();
            due("findings", x.status(-1), 1);
            due("BEYOND", x.status(0), 1);
        });
    }

    // ---- tear

    private static void promise42() {
        answers(42, "nothing is kept", 0, StairFines::new, x -> x.tear());
        answers(42, "something is", 1, Edges::rich, x -> x.tear());
        answers(42, "an image of nothing is something", 1, () -> {
            StairFines x = new StairFines();
            x.image();
            return x;
        }, x -> x.tear());
        test(42, "twice", Edges::rich, x -> {
            due("once", x.tear(), 1);
            due("twice", x.tear(), 0);
            due("undo", x.undo(), NONE);
        });
        test(42, "two were kept: one is enough", Edges::rich, x -> {
            x.image();
            x.image();
            due("once", x.tear(), 1);
            due("twice", x.tear(), 0);
        });
        test(42, "after undo() it is still kept", Edges::rich, x -> {
            x.undo();
            due("once", x.tear(), 1);
        });
        test(42, "kept again", Edges::rich, x -> {
            x.tear();
            x.image();
            due("undo", x.undo(), 6);
            due("tear", x.tear(), 1);
        });
        test(42, "nothing else changes", Edges::rich, x -> {
            x.tear();
            same("all is as it was", x, Checks.seen(rich()));
        });
    }

    // ---- count

    private static void promise43() {
        range(43, "what", 0, 3, Edges::rich, (x, v) -> x.count(v));
        answers(43, "no FINES", 0, StairFines::new, x -> x.count(0));
        answers(43, "ten FINES", 10, Edges::full, x -> x.count(0));
        answers(43, "no bytes", 0, StairFines::new, x -> x.count(1));
        test(43, "120 bytes", x -> {
            for (int i = 0; i < 30; i++) {
                x.feed(0, 4);
            }
            due("bytes", x.count(1), 120);
            x.feed(0, 1);
            due("no more", x.count(1), 120);
        });
        answers(43, "nothing is WHOLE", 0, StairFines::new, x -> x.count(2));
        answers(43, "forty of 10", 400, Edges::allWhole, x -> x.count(2));
        test(43, "forty of 25, the most there can be", x -> {
            for (int place = 0; place < 40; place++) {
                x.rock(place, 9);
            }
            x.fine(4, 40, 0);
            x.fine(4, 40, 20);
            x.years(200);
            due("HIGH of all", x.count(2), 40 * 25);
        });
        test(43, "HIGH of a broken one counts no more", () -> stair(25, 7), x -> {
            due("both", x.count(2), 32);
            x.make(0, false, 0);
            due("one", x.count(2), 7);
        });
        answers(43, "z at first", 1, StairFines::new, x -> x.count(3));
        for (int z : new int[] {0, -1, MIN, MAX, -1000000001, -1000000007}) {
            test(43, "z is any number, " + z, x -> {
                x.seed(z);
                due("z", x.count(3), z);
                due("no finding", x.status(-1), 0);
            });
        }
    }

    // ---- status

    private static void promise44() {
        for (int which = -1; which <= 6; which++) {
            int w = which;
            answers(44, "none at first, which " + w, 0, StairFines::new, x -> x.status(w));
        }
        Call[] calls = {x -> x.rock(0, 0), x -> x.fine(0, 1, 0), x -> x.as(0, 1), x -> x.meetsFor(40),
            x -> x.placeOf(39, 2), x -> x.lays(3), x -> x.sheet(0, 8, -1)};
        for (int f = 0; f < 7; f++) {
            int finding = f;
            test(44, "finding " + finding + " is counted in its own and in all", () -> tenFines(), x -> {
                for (int times = 1; times <= 3; times++) {
                    due("the finding", calls[finding].ask(x), BEYOND - finding);
                    for (int which = 0; which <= 6; which++) {
                        due("status(" + which + ")", x.status(which), which == finding ? times : 0);
                    }
                    due("status(-1)", x.status(-1), times);
                }
            });
        }
        test(44, "findings in longs are counted, too", () -> tenFines(), x -> {
            x.on(-1);
            x.write(3, 0, 0);
            due("BEYOND", x.status(0), 1);
            due("MISSING", x.status(5), 1);
        });
        test(44, "answers below 0 that are no findings aren't counted", () -> tenFines(), x -> {
            due("a FAULT", x.court(), -1);
            x.seed(-1000000001);
            due("z", x.seed(1), -1000000001);
            x.sheet(0, 64, 1);
            x.write(0, 0, -1000000002);
            due("a number", x.write(0, 0, 1), -1000000002);
            due("findings", x.status(-1), 0);
        });
        test(44, "undo() takes none back", Edges::rich, x -> {
            x.rock(40, 1);
            x.undo();
            x.lays(3);
            x.undo();
            due("all", x.status(-1), 2);
        });
        test(44, "500 findings", x -> {
            for (int i = 0; i < 500; i++) {
                x.rock(40, 1);
            }
            due("BEYOND", x.status(0), 500);
            due("all", x.status(-1), 500);
        });
    }

    private static StairFines tenFines() {
        StairFines x = new StairFines();
        for (int fine = 0; fine < 10; fine++) {
            x.fine(0, 1, 0);
        }
        return x;
    }

    private static void promise44other() {
        range(44, "which", -1, 6, Edges::rich, (x, v) -> x.status(v));
        test(44, "another one is counted from then on", x -> {
            due("7", x.status(7), BEYOND);
            due("BEYOND", x.status(0), 1);
            due("-2", x.status(-2), BEYOND);
            due("all", x.status(-1), 2);
            due("asking counts none", x.status(-1), 2);
        });
    }
}
