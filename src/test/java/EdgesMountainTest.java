/** Boundary cases of promises 1 to 13: a new object, the mountain, fines. */
final class EdgesMountainTest extends Edges {
    private EdgesMountainTest() {
    }

    public static void main(String[] args) {
        promise1();
        promise2();
        promise3();
        promise4();
        promise5();
        promise5works();
        promise5high();
        promise6();
        promise7();
        promise8();
        promise9();
        promise10();
        promise11();
        promise12();
        promise13();
        end(1, 13);
    }

    private static void promise1() {
        answers(1, "no FINES", 0, StairFines::new, x -> x.count(0));
        answers(1, "no STEPS are owed", 0, StairFines::new, x -> x.now(4));
        refused(1, "not even FINE 0", BEYOND, StairFines::new, x -> x.of(0, 0));
        answers(1, "nothing WHOLE", 0, StairFines::new, x -> x.whole());
        answers(1, "how many are WHOLE", 0, StairFines::new, x -> x.now(3));
        answers(1, "no HIGH", 0, StairFines::new, x -> x.count(2));
        answers(1, "REACH", 0, StairFines::new, x -> x.reach());
        answers(1, "no bytes", 0, StairFines::new, x -> x.count(1));
        answers(1, "nothing to wipe", 0, StairFines::new, x -> x.wipe());
        answers(1, "an empty TAPE is no TEXT", -1, StairFines::new, x -> x.court());
        refused(1, "no image is kept", NONE, StairFines::new, x -> x.undo());
        answers(1, "no image to tear", 0, StairFines::new, x -> x.tear());
        answers(1, "YEAR", 0, StairFines::new, x -> x.now(0));
        answers(1, "FROST", 0, StairFines::new, x -> x.now(1));
        answers(1, "MEETS", 4, StairFines::new, x -> x.now(2));
        answers(1, "z", 1, StairFines::new, x -> x.count(3));
        test(1, "each PLACE has ROCK 3 and isn't WHOLE", x -> {
            for (int place = 0; place < 40; place++) {
                due("ROCK of " + place, x.placeOf(place, 0), 3);
                due("WHOLE " + place, x.placeOf(place, 1), 0);
            }
        });
        for (int s = 0; s < 4; s++) {
            int sheet = s;
            refused(1, "sheet " + s + " is MISSING", MISSING, StairFines::new, x -> x.lays(sheet));
        }
        test(1, "no finding is counted", x -> {
            for (int which = -1; which <= 6; which++) {
                due("status(" + which + ")", x.status(which), 0);
            }
        });
        test(1, "objects are apart", x -> {
            StairFines other = rich();
            due("FINES of the new one", x.count(0), 0);
            due("FINES of the other", other.count(0), 6);
        });
    }

    private static void promise2() {
        range(2, "PLACE", 0, 39, Edges::rich, (x, v) -> x.rock(v, 5));
        range(2, "ROCK", 1, 9, Edges::rich, (x, v) -> x.rock(7, v));
        refused(2, "both are BEYOND", BEYOND, Edges::rich, x -> x.rock(40, 10));
        test(2, "PLACE 0 alone", x -> {
            due("what it was", x.rock(0, 9), 3);
            rocksAre(x, 0, 9);
        });
        test(2, "PLACE 39 alone", x -> {
            due("what it was", x.rock(39, 1), 3);
            rocksAre(x, 39, 1);
        });
        test(2, "from the least to the greatest and back", x -> {
            due("3 at first", x.rock(20, 1), 3);
            due("the least", x.rock(20, 9), 1);
            due("the greatest", x.rock(20, 9), 9);
            due("the same again", x.rock(20, 1), 9);
        });
        test(2, "HIGH of a WHOLE PLACE stays", () -> stair(11), x -> {
            x.rock(0, 9);
            due("HIGH", x.placeOf(0, 2), 11);
        });
    }

    /** All have ROCK 3 but one. */
    private static void rocksAre(StairFines x, int one, int rock) {
        for (int place = 0; place < 40; place++) {
            due("ROCK of " + place, x.placeOf(place, 0), place == one ? rock : 3);
        }
    }

    private static void promise3() {
        range(3, "FROST", 0, 9, Edges::rich, (x, v) -> x.let(0, v));
        range(3, "MEETS", 0, 20, Edges::rich, (x, v) -> x.let(1, v));
        range(3, "what", 0, 1, Edges::rich, (x, v) -> x.let(v, 3));
        refused(3, "both are BEYOND", BEYOND, Edges::rich, x -> x.let(2, 21));
        test(3, "FROST from 0 to 9 and back", x -> {
            due("0 at first", x.let(0, 9), 0);
            due("FROST", x.now(1), 9);
            due("9", x.let(0, 0), 9);
            due("0", x.let(0, 0), 0);
            due("MEETS is as it was", x.now(2), 4);
        });
        test(3, "MEETS from 4 to 20 and 0", x -> {
            due("4 at first", x.let(1, 20), 4);
            due("MEETS", x.now(2), 20);
            due("20", x.let(1, 0), 20);
            due("0", x.let(1, 0), 0);
            due("FROST is as it was", x.now(1), 0);
        });
    }

    private static void promise4() {
        range(4, "kind", 0, 5, Edges::rich, (x, v) -> x.fine(v, 3, 3));
        range(4, "steps", 1, 40, Edges::rich, (x, v) -> x.fine(3, v, 3));
        range(4, "place", 0, 39, Edges::rich, (x, v) -> x.fine(3, 3, v));
        refused(4, "all are BEYOND", BEYOND, Edges::rich, x -> x.fine(6, 0, 40));
        test(4, "ten FINES are numbers 0 to 9", x -> {
            for (int fine = 0; fine < 10; fine++) {
                due("its number", x.fine(5, 40, 39), fine);
            }
            due("FINES", x.count(0), 10);
        });
        refused(4, "an 11th is FULL", FULL, Edges::full, x -> x.fine(0, 1, 0));
        refused(4, "an 11th of kind -1: BEYOND first", BEYOND, Edges::full, x -> x.fine(-1, 1, 0));
        refused(4, "an 11th of kind 6: BEYOND first", BEYOND, Edges::full, x -> x.fine(6, 1, 0));
        refused(4, "an 11th of 0 steps: BEYOND first", BEYOND, Edges::full, x -> x.fine(0, 0, 0));
        refused(4, "an 11th of 41 steps: BEYOND first", BEYOND, Edges::full, x -> x.fine(0, 41, 0));
        refused(4, "an 11th at place -1: BEYOND first", BEYOND, Edges::full, x -> x.fine(0, 1, -1));
        refused(4, "an 11th at place 40: BEYOND first", BEYOND, Edges::full, x -> x.fine(0, 1, 40));
        test(4, "FULL, too, if none of the ten OWES any", Edges::full, x -> {
            for (int fine = 0; fine < 10; fine++) {
                x.set(fine, 1, 0);
            }
            due("an 11th", x.fine(0, 1, 0), FULL);
        });
        test(4, "the least and the greatest stand", x -> {
            x.fine(0, 1, 0);
            x.fine(5, 40, 39);
            due("the first", x.of(0, 0) * 10000 + x.of(0, 1) * 100 + x.of(0, 2), 100);
            due("the second", x.of(1, 0) * 10000 + x.of(1, 1) * 100 + x.of(1, 2), 54039);
        });
        test(4, "one where an undone one was begins anew", x -> {
            x.image();
            x.rock(0, 9);
            x.fine(0, 5, 0);
            x.set(0, 3, 4);
            x.years(1);
            due("WORK of the one to be undone", x.of(0, 4), 4);
            x.undo();
            due("its number", x.fine(0, 5, 0), 0);
            due("ARM", x.of(0, 3), 3);
            due("WORK", x.of(0, 4), 0);
        });
        test(4, "one AT a PLACE that is WHOLE is taken", Edges::allWhole, x -> {
            due("its number", x.fine(0, 1, 7), 1);
            due("PLACE", x.of(1, 2), 7);
        });
    }

    private static void promise5() {
        numberOfFine(5, "", Edges::rich, Edges::full, (x, v) -> x.of(v, 0));
        range(5, "what", 0, 7, Edges::rich, (x, v) -> x.of(3, v));
        for (int what = 0; what <= 7; what++) {
            int w = what;
            refused(5, "no FINES, what " + w, BEYOND, StairFines::new, x -> x.of(0, w));
        }
        refused(5, "both are BEYOND", BEYOND, Edges::rich, x -> x.of(6, 8));
        test(5, "KIND, the first to the last", EdgesMountainTest::six, x -> {
            for (int kind = 0; kind < 6; kind++) {
                due("KIND", x.of(kind, 0), kind);
                x.turn(kind, 5 - kind);
                due("KIND turned", x.of(kind, 0), 5 - kind);
            }
        });
        test(5, "it OWES 0", () -> paidAt(0), x -> due("OWES", x.of(0, 1), 0));
        test(5, "it OWES 40", x -> due("OWES", x.fine(4, 40, 0) + x.of(0, 1), 40));
        test(5, "the first PLACE and the last", x -> {
            x.fine(0, 1, 0);
            x.fine(0, 1, 39);
            due("the first", x.of(0, 2), 0);
            due("the last", x.of(1, 2), 39);
        });
        test(5, "ARM at first, the least, the greatest", x -> {
            x.fine(0, 1, 0);
            due("at first", x.of(0, 3), 3);
            x.set(0, 3, 1);
            due("the least", x.of(0, 3), 1);
            x.set(0, 3, 9);
            due("the greatest", x.of(0, 3), 9);
        });
        test(5, "WORK, from none to the most there can be", x -> {
            x.rock(0, 9);
            x.fine(0, 1, 0);
            x.set(0, 3, 1);
            for (int work = 0; work < 9; work++) {
                due("WORK", x.of(0, 4), work);
                x.years(1);
            }
            due("none again", x.of(0, 4), 0);
        });
        test(5, "it cut none, one, all", () -> paidAt(0), x -> {
            due("none", x.of(0, 7), 0);
            x.make(39, true, 0);
            due("one", x.of(0, 7), 1);
            for (int place = 0; place < 39; place++) {
                x.make(place, true, 0);
            }
            due("all", x.of(0, 7), 40);
            x.make(0, false, 0);
            due("all but one that is broken", x.of(0, 7), 39);
        });
        test(5, "of those of another it cut none", Edges::allWhole, x -> {
            x.fine(0, 1, 0);
            due("another", x.of(1, 7), 0);
        });
    }

    private static void promise5works() {
        int[] ofArm1 = {1, 2, 1, 3, 1, 5};
        int[] ofArm2 = {2, 4, 2, 4, 2, 6};
        int[] ofArm9 = {9, 18, 9, 11, 5, 13};
        for (int k = 0; k < 6; k++) {
            int kind = k;
            test(5, "kind " + kind + " WORKS with the least ARM, the next and the greatest", x -> {
                x.fine(kind, 1, 0);
                x.set(0, 3, 1);
                due("ARM 1", x.of(0, 5), ofArm1[kind]);
                x.set(0, 3, 2);
                due("ARM 2", x.of(0, 5), ofArm2[kind]);
                x.set(0, 3, 9);
                due("ARM 9", x.of(0, 5), ofArm9[kind]);
            });
        }
        test(5, "SAINTLY: each 10 that aren't WHOLE", x -> {
            x.fine(5, 1, 0);
            x.set(0, 3, 1);
            due("40 aren't", x.of(0, 5), 5);
            for (int whole = 1; whole <= 40; whole++) {
                x.make(whole - 1, true, 0);
                int not = 40 - whole;
                due(not + " aren't", x.of(0, 5), not >= 30 ? 4 : not >= 20 ? 3 : not >= 10 ? 2 : 1);
            }
        });
    }

    private static void promise5high() {
        int[] inRock1 = {9, 9, 7, 14, 17, 7};
        int[] inRock5 = {13, 13, 11, 18, 21, 11};
        int[] inRock6 = {14, 14, 12, 19, 22, 7};
        int[] inRock9 = {17, 17, 15, 22, 25, 7};
        for (int k = 0; k < 6; k++) {
            int kind = k;
            test(5, "HIGH of kind " + kind + " in ROCK 1, 5, 6, 9, at the last PLACE", x -> {
                x.fine(kind, 1, 39);
                x.rock(39, 1);
                due("ROCK 1", x.of(0, 6), inRock1[kind]);
                x.rock(39, 5);
                due("ROCK 5, not above 5", x.of(0, 6), inRock5[kind]);
                x.rock(39, 6);
                due("ROCK 6, above 5", x.of(0, 6), inRock6[kind]);
                x.rock(39, 9);
                due("ROCK 9", x.of(0, 6), inRock9[kind]);
            });
        }
        test(5, "HIGH where it is, though that is WHOLE", Edges::allWhole, x -> {
            x.rock(0, 9);
            due("HIGH", x.of(0, 6), 17);
        });
    }

    private static void promise6() {
        range(6, "OWES", 0, 40, Edges::rich, (x, v) -> x.set(4, 1, v));
        range(6, "PLACE", 0, 39, Edges::rich, (x, v) -> x.set(4, 2, v));
        range(6, "ARM", 1, 9, Edges::rich, (x, v) -> x.set(4, 3, v));
        range(6, "what", 1, 3, Edges::rich, (x, v) -> x.set(4, v, 5));
        numberOfFine(6, "OWES, ", Edges::rich, Edges::full, (x, v) -> x.set(v, 1, 5));
        numberOfFine(6, "PLACE, ", Edges::rich, Edges::full, (x, v) -> x.set(v, 2, 5));
        numberOfFine(6, "ARM, ", Edges::rich, Edges::full, (x, v) -> x.set(v, 3, 5));
        refused(6, "all are BEYOND", BEYOND, Edges::rich, x -> x.set(6, 4, 41));
        test(6, "OWES 40, then 0: what it was", x -> {
            x.fine(0, 1, 0);
            due("1", x.set(0, 1, 40), 1);
            due("40", x.set(0, 1, 0), 40);
            due("0", x.set(0, 1, 0), 0);
            due("it is", x.of(0, 1), 0);
        });
        test(6, "PLACE 39, then 0: what it was", x -> {
            x.fine(0, 1, 5);
            due("5", x.set(0, 2, 39), 5);
            due("39", x.set(0, 2, 0), 39);
            due("0", x.set(0, 2, 0), 0);
            due("it is", x.of(0, 2), 0);
        });
        test(6, "ARM 9, then 1: what it was", x -> {
            x.fine(0, 1, 5);
            due("3", x.set(0, 3, 9), 3);
            due("9", x.set(0, 3, 1), 9);
            due("1", x.set(0, 3, 1), 1);
            due("it is", x.of(0, 3), 1);
        });
        test(6, "WORK is 0 with a PLACE, be it the same", EdgesMountainTest::worked, x -> {
            x.set(0, 2, 20);
            due("WORK", x.of(0, 4), 0);
        });
        test(6, "WORK stays with what it OWES, be it 0", EdgesMountainTest::worked, x -> {
            x.set(0, 1, 0);
            due("WORK", x.of(0, 4), 6);
        });
        test(6, "WORK stays with ARM", EdgesMountainTest::worked, x -> {
            x.set(0, 3, 9);
            due("WORK", x.of(0, 4), 6);
        });
    }

    /** A FINE AT 20 with WORK 6 in ROCK 9. */
    private static StairFines worked() {
        StairFines x = new StairFines();
        x.rock(20, 9);
        x.fine(0, 5, 20);
        x.years(2);
        return x;
    }

    private static void promise7() {
        range(7, "kind", 0, 5, Edges::rich, (x, v) -> x.turn(2, v));
        numberOfFine(7, "", Edges::rich, Edges::full, (x, v) -> x.turn(v, 3));
        refused(7, "both are BEYOND", BEYOND, Edges::rich, x -> x.turn(6, 6));
        test(7, "the last KIND, the first, the first again", EdgesMountainTest::worked, x -> {
            due("0", x.turn(0, 5), 0);
            due("5", x.turn(0, 0), 5);
            due("0 again", x.turn(0, 0), 0);
            due("WORK stays", x.of(0, 4), 6);
            due("OWES stays", x.of(0, 1), 5);
        });
    }

    private static void promise8() {
        String[] are = {"0", "01", "02", "03", "034", "025"};
        for (int k = 0; k < 36; k++) {
            int kind = k / 6;
            int as = k % 6;
            if (are[kind].indexOf('0' + as) >= 0) {
                answers(8, kind + " is one of " + as, 14 + kind, EdgesMountainTest::six, x -> x.as(kind, as));
            } else {
                refused(8, kind + " isn't one of " + as, KIND, EdgesMountainTest::six, x -> x.as(kind, as));
            }
        }
        numberOfFine(8, "", Edges::rich, Edges::full, (x, v) -> x.as(v, 0));
        for (int kind : new int[] {-1, 6, MIN, MAX}) {
            refused(8, "kind " + kind + " is BEYOND", BEYOND, Edges::rich, x -> x.as(0, kind));
        }
        refused(8, "no such one, as a KIND that others are not: BEYOND first", BEYOND, Edges::rich, x -> x.as(6, 4));
        refused(8, "both are BEYOND", BEYOND, Edges::rich, x -> x.as(-1, 6));
        answers(8, "one that OWES 0", 0, () -> paidAt(0), x -> x.as(0, 0));
    }

    /** One FINE of each KIND, which owe 14 to 19. */
    private static StairFines six() {
        StairFines x = new StairFines();
        for (int kind = 0; kind < 6; kind++) {
            x.fine(kind, 14 + kind, 0);
        }
        return x;
    }

    private static void promise9() {
        range(9, "PLACE", 0, 39, Edges::rich, (x, v) -> x.placeOf(v, 0));
        range(9, "what, of a WHOLE one", 0, 4, Edges::allWhole, (x, v) -> x.placeOf(39, v));
        for (int w = 2; w <= 4; w++) {
            int what = w;
            refused(9, "what " + what + " of one never WHOLE", STATE, StairFines::new, x -> x.placeOf(0, what));
            refused(9, "what " + what + " of a broken one", STATE, () -> allBut(39), x -> x.placeOf(39, what));
            refused(9, "what " + what + " at PLACE 40: BEYOND first", BEYOND, Edges::rich, x -> x.placeOf(40, what));
            refused(9, "what " + what + " at PLACE -1: BEYOND first", BEYOND, Edges::rich, x -> x.placeOf(-1, what));
        }
        refused(9, "what 5 of one that isn't WHOLE: BEYOND first", BEYOND, StairFines::new, x -> x.placeOf(0, 5));
        refused(9, "what -1 of one that isn't WHOLE: BEYOND first", BEYOND, StairFines::new, x -> x.placeOf(0, -1));
        answers(9, "ROCK of one that isn't WHOLE", 3, StairFines::new, x -> x.placeOf(39, 0));
        answers(9, "one that isn't WHOLE", 0, StairFines::new, x -> x.placeOf(39, 1));
        answers(9, "one that is WHOLE", 1, Edges::allWhole, x -> x.placeOf(39, 1));
        test(9, "FROST broke it", () -> stair(11), x -> {
            x.let(0, 9);
            x.seed(0);
            x.years(1);
            due("WHOLE", x.placeOf(0, 1), 0);
            due("HIGH", x.placeOf(0, 2), STATE);
        });
        test(9, "the first FINE and the tenth, the first YEAR and the last", x -> {
            x.fine(0, 1, 0);
            x.years(1);
            due("YEAR", x.placeOf(0, 4), 0);
            due("CUTTER", x.placeOf(0, 3), 0);
            Checks.goTo(x, 9999);
            for (int fine = 1; fine < 10; fine++) {
                x.fine(0, 1, 0);
            }
            x.make(39, true, 9);
            due("the last YEAR", x.placeOf(39, 4), 9999);
            due("the tenth", x.placeOf(39, 3), 9);
        });
        test(9, "the least HIGH and the greatest", () -> stair(7, 25), x -> {
            due("7", x.placeOf(0, 2), 7);
            due("25", x.placeOf(1, 2), 25);
        });
    }

    private static void promise10() {
        answers(10, "none", 0, StairFines::new, x -> x.whole());
        answers(10, "all forty", ALL, Edges::allWhole, x -> x.whole());
        answers(10, "all but the first", ALL - 1, () -> allBut(0), x -> x.whole());
        answers(10, "all but the last", ALL >> 1, () -> allBut(39), x -> x.whole());
        test(10, "each alone is its own bit", () -> paidAt(0), x -> {
            for (int place = 0; place < 40; place++) {
                x.make(place, true, 0);
                due("PLACE " + place, x.whole(), 1L << place);
                x.make(place, false, 0);
            }
            due("none again", x.whole(), 0);
        });
    }

    private static void promise11() {
        range(11, "PLACE, made", 0, 39, Edges::rich, (x, v) -> x.make(v, true, 0));
        range(11, "PLACE, broken", 0, 39, Edges::rich, (x, v) -> x.make(v, false, 0));
        numberOfFine(11, "made, ", Edges::rich, Edges::full, (x, v) -> x.make(39, true, v));
        numberOfFine(11, "broken, ", Edges::rich, Edges::full, (x, v) -> x.make(0, false, v));
        refused(11, "both are BEYOND", BEYOND, Edges::rich, x -> x.make(40, true, 6));
        refused(11, "BEYOND, though it is WHOLE already", BEYOND, Edges::allWhole, x -> x.make(0, true, 1));
        refused(11, "BEYOND, though it is broken already", BEYOND, () -> allBut(0), x -> x.make(0, false, 1));
        test(11, "WHOLE already: nothing changes", () -> stair(16), x -> {
            x.fine(4, 1, 9);
            String was = Checks.seen(x);
            due("not new", x.make(0, true, 1), 0);
            same("all is as it was", x, was);
        });
        test(11, "broken already: nothing changes", () -> stair(0, 16), x -> {
            String was = Checks.seen(x);
            due("not new", x.make(0, false, 0), 0);
            same("all is as it was", x, was);
        });
        test(11, "broken and again WHOLE: HIGH 10, another FINE, this YEAR", () -> stair(25), x -> {
            x.fine(4, 1, 9);
            due("broken", x.make(0, false, 0), 1);
            due("again WHOLE", x.make(0, true, 1), 1);
            due("HIGH", x.placeOf(0, 2), 10);
            due("CUTTER", x.placeOf(0, 3), 1);
            due("YEAR", x.placeOf(0, 4), 2);
        });
        test(11, "the FINE that makes it OWES and WORKS as ahead of it", x -> {
            x.rock(5, 9);
            x.fine(4, 1, 5);
            x.years(1);
            x.make(5, true, 0);
            due("OWES", x.of(0, 1), 1);
            due("WORK", x.of(0, 4), 2);
            due("PLACE", x.of(0, 2), 5);
        });
    }

    private static void promise12() {
        answers(12, "nothing is WHOLE", 0, StairFines::new, x -> x.reach());
        answers(12, "PLACE 0 alone", 1, () -> stair(25), x -> x.reach());
        answers(12, "all but PLACE 0", 0, () -> allBut(0), x -> x.reach());
        answers(12, "all but PLACE 1", 1, () -> allBut(1), x -> x.reach());
        answers(12, "all but PLACE 39", 39, () -> allBut(39), x -> x.reach());
        answers(12, "all forty", 40, Edges::allWhole, x -> x.reach());
        answers(12, "4 inches more MEET", 2, () -> stair(11, 15), x -> x.reach());
        answers(12, "4 inches less MEET", 2, () -> stair(15, 11), x -> x.reach());
        answers(12, "5 inches more don't", 1, () -> stair(11, 16), x -> x.reach());
        answers(12, "5 inches less don't", 1, () -> stair(16, 11), x -> x.reach());
        test(12, "MEETS 0: alike ones MEET, an inch is too much", () -> stair(11, 11, 12, 12), x -> {
            x.let(1, 0);
            due("REACH", x.reach(), 2);
            x.let(1, 1);
            due("by 1", x.reach(), 4);
        });
        test(12, "MEETS 18 and the most unlike STEPS", () -> stair(7, 25, 7), x -> {
            x.let(1, 17);
            due("by 17", x.reach(), 1);
            x.let(1, 18);
            due("by 18", x.reach(), 3);
            x.let(1, 20);
            due("by 20", x.reach(), 3);
        });
        test(12, "PLACE 39 doesn't MEET 38", () -> allBut(39), x -> {
            cut(x, 39, 15);
            due("by 4", x.reach(), 39);
            x.let(1, 5);
            due("by 5", x.reach(), 40);
        });
        answers(12, "behind one that isn't WHOLE none counts", 1, () -> stair(11, 0, 11), x -> x.reach());
    }

    private static void promise13() {
        answers(13, "nothing is WHOLE", 0, StairFines::new, x -> x.faults());
        answers(13, "PLACE 0 has none ahead", 0, () -> stair(25), x -> x.faults());
        answers(13, "all alike", 0, Edges::allWhole, x -> x.faults());
        test(13, "all behind PLACE 0", () -> zigzag(9, 17), x -> {
            due("by 4", x.faults(), ALL - 1);
            x.let(1, 7);
            due("by 7", x.faults(), ALL - 1);
            x.let(1, 8);
            due("by 8", x.faults(), 0);
        });
        answers(13, "4 inches more MEET", 0, () -> stair(11, 15), x -> x.faults());
        answers(13, "4 inches less MEET", 0, () -> stair(15, 11), x -> x.faults());
        answers(13, "5 inches more don't", 2, () -> stair(11, 16), x -> x.faults());
        answers(13, "5 inches less don't", 2, () -> stair(16, 11), x -> x.faults());
        answers(13, "the one ahead isn't WHOLE", 0, () -> stair(11, 0, 25), x -> x.faults());
        answers(13, "the one behind isn't WHOLE", 0, () -> stair(0, 25, 0), x -> x.faults());
        answers(13, "those that can't be reached, too", 1 << 3, () -> stair(0, 0, 11, 25), x -> x.faults());
        test(13, "a broken one's HIGH counts no more", () -> stair(11, 25, 11), x -> {
            due("faults", x.faults(), 6);
            x.make(1, false, 0);
            due("broken", x.faults(), 0);
        });
        test(13, "PLACE 39 alone, and 39 isn't ahead of 0", () -> allBut(39), x -> {
            cut(x, 39, 25);
            due("39 and 38", x.faults(), 1L << 39);
            x.make(38, false, 0);
            due("39 and 0 are no pair", x.faults(), 0);
        });
    }
}
