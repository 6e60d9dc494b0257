/** Promises 1 to 16: the mountain, fines, years. */
final class MountainTest extends Promises {
    /** Times 1103515245 this is 1, round as ints go: it leads from a z to the one ahead of it. */
    private static final int INVERSE = inverse(1103515245);

    private MountainTest() {
    }

    public static void main(String[] args) {
        promise1();
        promise2();
        promise3();
        promise4();
        promise5();
        promise6();
        promise7();
        promise8();
        promise9();
        promise10and11();
        promise12();
        promise13();
        promise14();
        promise14frost();
        promise14goingOn();
        promise15and16();
        Checks.end();
    }

    private static int inverse(int odd) {
        int inverse = odd;
        for (int i = 0; i < 5; i++) {
            inverse *= 2 - odd * inverse;
        }
        return inverse;
    }

    private static void promise1() {
        StairFines x = new StairFines();
        due("1 fines", x.count(0), 0);
        due("1 tape", x.count(1), 0);
        due("1 high", x.count(2), 0);
        due("1 z", x.count(3), 1);
        due("1 whole", x.whole(), 0);
        due("1 year", x.now(0), 0);
        due("1 frost", x.now(1), 0);
        due("1 meets", x.now(2), 4);
        due("1 status", x.status(-1), 0);
        for (int place = 0; place < 40; place++) {
            due("1 rock", x.placeOf(place, 0), 3);
            due("1 whole", x.placeOf(place, 1), 0);
        }
        due("1 no image", x.undo(), NONE);
        for (int s = 0; s < 4; s++) {
            due("1 no sheet", x.lays(s), MISSING);
        }
        due("1 status after", x.status(-1), 5);
    }

    private static void promise2() {
        StairFines x = new StairFines();
        due("rock(0, 1)", x.rock(0, 1), 3);
        due("rock(0, 9)", x.rock(0, 9), 1);
        due("rock(39, 9)", x.rock(39, 9), 3);
        due("placeOf(0, 0)", x.placeOf(0, 0), 9);
        due("placeOf(1, 0)", x.placeOf(1, 0), 3);
        String was = Checks.seen(x);
        due("rock(-1, 5)", x.rock(-1, 5), BEYOND);
        due("rock(40, 5)", x.rock(40, 5), BEYOND);
        due("rock(0, 0)", x.rock(0, 0), BEYOND);
        due("rock(0, 10)", x.rock(0, 10), BEYOND);
        due("rock(MIN, MIN)", x.rock(MIN, MIN), BEYOND);
        due("rock(MAX, MAX)", x.rock(MAX, MAX), BEYOND);
        same("rock", x, was);
        due("status(0)", x.status(0), 6);
    }

    private static void promise3() {
        StairFines x = new StairFines();
        due("let(0, 9)", x.let(0, 9), 0);
        due("let(0, 0)", x.let(0, 0), 9);
        due("let(0, 3)", x.let(0, 3), 0);
        due("let(1, 20)", x.let(1, 20), 4);
        due("let(1, 0)", x.let(1, 0), 20);
        due("let(1, 7)", x.let(1, 7), 0);
        due("now(1)", x.now(1), 3);
        due("now(2)", x.now(2), 7);
        String was = Checks.seen(x);
        due("let(0, 10)", x.let(0, 10), BEYOND);
        due("let(0, -1)", x.let(0, -1), BEYOND);
        due("let(1, 21)", x.let(1, 21), BEYOND);
        due("let(1, -1)", x.let(1, -1), BEYOND);
        due("let(2, 1)", x.let(2, 1), BEYOND);
        due("let(-1, 1)", x.let(-1, 1), BEYOND);
        due("let(MAX, MIN)", x.let(MAX, MIN), BEYOND);
        same("let", x, was);
    }

    private static void promise4() {
        StairFines x = new StairFines();
        due("fine(0, 1, 0)", x.fine(0, 1, 0), 0);
        due("fine(5, 40, 39)", x.fine(5, 40, 39), 1);
        String was = Checks.seen(x);
        due("fine(-1, 1, 0)", x.fine(-1, 1, 0), BEYOND);
        due("fine(6, 1, 0)", x.fine(6, 1, 0), BEYOND);
        due("fine(0, 0, 0)", x.fine(0, 0, 0), BEYOND);
        due("fine(0, 41, 0)", x.fine(0, 41, 0), BEYOND);
        due("fine(0, 1, -1)", x.fine(0, 1, -1), BEYOND);
        due("fine(0, 1, 40)", x.fine(0, 1, 40), BEYOND);
        same("fine", x, was);
        for (int f = 2; f < 10; f++) {
            due("fine(3, 5, 7)", x.fine(3, 5, 7), f);
        }
        was = Checks.seen(x);
        due("fine, an 11th", x.fine(3, 5, 7), FULL);
        due("fine, an 11th, BEYOND first", x.fine(3, 41, 7), BEYOND);
        due("fine, an 11th, BEYOND first", x.fine(6, 5, 7), BEYOND);
        due("fine, an 11th, BEYOND first", x.fine(3, 5, 40), BEYOND);
        same("fine", x, was);
        due("count(0)", x.count(0), 10);
        due("status(1)", x.status(1), 1);
        due("status(0)", x.status(0), 9);
    }

    private static void promise5() {
        StairFines x = new StairFines();
        int[] works = {3, 6, 3, 5, 2, 7};
        int[] high = {11, 11, 9, 16, 19, 9};
        for (int kind = 0; kind < 6; kind++) {
            x.fine(kind, 10 + kind, 20 + kind);
            due("of 0", x.of(kind, 0), kind);
            due("of 1", x.of(kind, 1), 10 + kind);
            due("of 2", x.of(kind, 2), 20 + kind);
            due("of 3", x.of(kind, 3), 3);
            due("of 4", x.of(kind, 4), 0);
            due("of 5 of kind " + kind, x.of(kind, 5), works[kind]);
            due("of 6 of kind " + kind, x.of(kind, 6), high[kind]);
            due("of 7", x.of(kind, 7), 0);
        }
        int[] worksOfTwo = {2, 4, 2, 4, 2, 6};
        int[] worksOfOne = {1, 2, 1, 3, 1, 5};
        int[] worksOfNine = {9, 18, 9, 11, 5, 13};
        int[] highInFive = {13, 13, 11, 18, 21, 11};
        int[] highInSix = {14, 14, 12, 19, 22, 7};
        int[] highInNine = {17, 17, 15, 22, 25, 7};
        int[] highInOne = {9, 9, 7, 14, 17, 7};
        for (int kind = 0; kind < 6; kind++) {
            x.set(kind, 3, 1);
            due("of 5, arm 1, kind " + kind, x.of(kind, 5), worksOfOne[kind]);
            x.set(kind, 3, 2);
            due("of 5, arm 2, kind " + kind, x.of(kind, 5), worksOfTwo[kind]);
            x.set(kind, 3, 9);
            due("of 5, arm 9, kind " + kind, x.of(kind, 5), worksOfNine[kind]);
            x.rock(20 + kind, 5);
            due("of 6, rock 5, kind " + kind, x.of(kind, 6), highInFive[kind]);
            x.rock(20 + kind, 6);
            due("of 6, rock 6, kind " + kind, x.of(kind, 6), highInSix[kind]);
            x.rock(20 + kind, 9);
            due("of 6, rock 9, kind " + kind, x.of(kind, 6), highInNine[kind]);
            x.rock(20 + kind, 1);
            due("of 6, rock 1, kind " + kind, x.of(kind, 6), highInOne[kind]);
        }
        for (int made = 1; made <= 40; made++) {
            x.make(made - 1, true, made % 2);
            due("of 5, saintly, " + made + " whole", x.of(5, 5), 9 + (40 - made) / 10);
        }
        due("of(0, 7)", x.of(0, 7), 20);
        due("of(1, 7)", x.of(1, 7), 20);
        due("of(2, 7)", x.of(2, 7), 0);
        x.make(1, false, 3);
        due("of(0, 7), one is broken", x.of(0, 7), 19);
        due("of(1, 7), one of the other's is broken", x.of(1, 7), 20);
        x = new StairFines();
        for (int kind = 0; kind < 6; kind++) {
            x.fine(kind, 1, 0);
        }
        String was = Checks.seen(x);
        due("of(-1, 0)", x.of(-1, 0), BEYOND);
        due("of(6, 0)", x.of(6, 0), BEYOND);
        due("of(0, -1)", x.of(0, -1), BEYOND);
        due("of(0, 8)", x.of(0, 8), BEYOND);
        due("of(MAX, MAX)", x.of(MAX, MAX), BEYOND);
        due("of(MIN, 0)", x.of(MIN, 0), BEYOND);
        same("of", x, was);
    }

    private static void promise6() {
        StairFines x = new StairFines();
        x.fine(0, 7, 4);
        x.rock(4, 9);
        x.years(1);
        due("of(0, 4)", x.of(0, 4), 3);
        due("set(0, 1, 0)", x.set(0, 1, 0), 7);
        due("set(0, 1, 40)", x.set(0, 1, 40), 0);
        due("set(0, 3, 1)", x.set(0, 3, 1), 3);
        due("set(0, 3, 9)", x.set(0, 3, 9), 1);
        due("work stays", x.of(0, 4), 3);
        due("set(0, 2, 4) where it is", x.set(0, 2, 4), 4);
        due("work is 0", x.of(0, 4), 0);
        due("set(0, 2, 0)", x.set(0, 2, 0), 4);
        due("set(0, 2, 39)", x.set(0, 2, 39), 0);
        due("of(0, 1)", x.of(0, 1), 40);
        due("of(0, 2)", x.of(0, 2), 39);
        due("of(0, 3)", x.of(0, 3), 9);
        String was = Checks.seen(x);
        due("set(0, 1, -1)", x.set(0, 1, -1), BEYOND);
        due("set(0, 1, 41)", x.set(0, 1, 41), BEYOND);
        due("set(0, 2, -1)", x.set(0, 2, -1), BEYOND);
        due("set(0, 2, 40)", x.set(0, 2, 40), BEYOND);
        due("set(0, 3, 0)", x.set(0, 3, 0), BEYOND);
        due("set(0, 3, 10)", x.set(0, 3, 10), BEYOND);
        due("set(0, 0, 1)", x.set(0, 0, 1), BEYOND);
        due("set(0, 4, 1)", x.set(0, 4, 1), BEYOND);
        due("set(1, 1, 1)", x.set(1, 1, 1), BEYOND);
        due("set(-1, 1, 1)", x.set(-1, 1, 1), BEYOND);
        same("set", x, was);
    }

    private static void promise7() {
        StairFines x = new StairFines();
        x.fine(0, 7, 4);
        x.rock(4, 9);
        x.years(1);
        due("turn(0, 5)", x.turn(0, 5), 0);
        due("turn(0, 4)", x.turn(0, 4), 5);
        due("turn(0, 4) again", x.turn(0, 4), 4);
        due("of(0, 0)", x.of(0, 0), 4);
        due("of(0, 1)", x.of(0, 1), 7);
        due("of(0, 4)", x.of(0, 4), 3);
        due("of(0, 5)", x.of(0, 5), 2);
        String was = Checks.seen(x);
        due("turn(0, -1)", x.turn(0, -1), BEYOND);
        due("turn(0, 6)", x.turn(0, 6), BEYOND);
        due("turn(1, 0)", x.turn(1, 0), BEYOND);
        due("turn(-1, 0)", x.turn(-1, 0), BEYOND);
        same("turn", x, was);
    }

    private static void promise8() {
        String[] are = {"0", "01", "02", "03", "034", "025"};
        StairFines x = new StairFines();
        for (int kind = 0; kind < 6; kind++) {
            x.fine(kind, 11 + kind, 0);
        }
        for (int kind = 0; kind < 6; kind++) {
            for (int as = 0; as < 6; as++) {
                boolean is = are[kind].indexOf('0' + as) >= 0;
                due("as(" + kind + ", " + as + ")", x.as(kind, as), is ? 11 + kind : KIND);
            }
        }
        due("status(2)", x.status(2), 23);
        due("as(6, 0)", x.as(6, 0), BEYOND);
        due("as(-1, 0)", x.as(-1, 0), BEYOND);
        due("as(0, 6)", x.as(0, 6), BEYOND);
        due("as(0, -1)", x.as(0, -1), BEYOND);
        x.turn(0, 5);
        due("as of a turned one", x.as(0, 2), 11);
        due("as of a turned one", x.as(0, 3), KIND);
    }

    private static void promise9() {
        StairFines x = new StairFines();
        x.fine(3, 2, 5);
        x.fine(2, 2, 38);
        x.years(4);
        due("placeOf(5, 0)", x.placeOf(5, 0), 3);
        due("placeOf(5, 1)", x.placeOf(5, 1), 1);
        due("placeOf(5, 2)", x.placeOf(5, 2), 16);
        due("placeOf(5, 3)", x.placeOf(5, 3), 0);
        due("placeOf(5, 4)", x.placeOf(5, 4), 0);
        due("placeOf(6, 4)", x.placeOf(6, 4), 1);
        due("placeOf(39, 2)", x.placeOf(39, 2), 9);
        due("placeOf(39, 3)", x.placeOf(39, 3), 1);
        due("placeOf(39, 4)", x.placeOf(39, 4), 1);
        due("placeOf(0, 1)", x.placeOf(0, 1), 0);
        String was = Checks.seen(x);
        for (int what = 2; what <= 4; what++) {
            due("placeOf(0, what)", x.placeOf(0, what), STATE);
        }
        due("placeOf(0, 5)", x.placeOf(0, 5), BEYOND);
        due("placeOf(5, 5)", x.placeOf(5, 5), BEYOND);
        due("placeOf(5, -1)", x.placeOf(5, -1), BEYOND);
        due("placeOf(-1, 0)", x.placeOf(-1, 0), BEYOND);
        due("placeOf(40, 2)", x.placeOf(40, 2), BEYOND);
        due("status(4)", x.status(4), 3);
        same("placeOf", x, was);
        x.rock(5, 9);
        due("high stays with other rock", x.placeOf(5, 2), 16);
    }

    private static void promise10and11() {
        StairFines x = new StairFines();
        due("make without fines", x.make(0, true, 0), BEYOND);
        due("make without fines", x.make(0, false, 0), BEYOND);
        x.fine(4, 1, 9);
        x.fine(4, 1, 9);
        x.years(7);
        due("make(39, true, 1)", x.make(39, true, 1), 1);
        due("whole", x.whole(), 1L << 39 | 1L << 9 | 1L << 10);
        due("high", x.placeOf(39, 2), 10);
        due("cutter", x.placeOf(39, 3), 1);
        due("year", x.placeOf(39, 4), 7);
        x.years(1);
        due("make(39, true, 0), whole", x.make(39, true, 0), 0);
        due("cutter", x.placeOf(39, 3), 1);
        due("year", x.placeOf(39, 4), 7);
        due("make(9, true, 1), whole", x.make(9, true, 1), 0);
        due("high stays", x.placeOf(9, 2), 19);
        due("make(0, false, 0), broken", x.make(0, false, 0), 0);
        due("make(9, false, 1)", x.make(9, false, 1), 1);
        due("make(9, false, 1)", x.make(9, false, 1), 0);
        due("whole", x.whole(), 1L << 39 | 1L << 10);
        due("make(9, true, 1), again", x.make(9, true, 1), 1);
        due("high is 10", x.placeOf(9, 2), 10);
        due("year is now", x.placeOf(9, 4), 8);
        String was = Checks.seen(x);
        due("make(-1, true, 0)", x.make(-1, true, 0), BEYOND);
        due("make(40, true, 0)", x.make(40, true, 0), BEYOND);
        due("make(0, true, 2)", x.make(0, true, 2), BEYOND);
        due("make(0, true, -1)", x.make(0, true, -1), BEYOND);
        due("make(9, false, 2)", x.make(9, false, 2), BEYOND);
        due("make(9, false, -1)", x.make(9, false, -1), BEYOND);
        same("make", x, was);
        for (int place = 0; place < 40; place++) {
            x.make(place, true, 0);
        }
        due("whole, all", x.whole(), 1099511627775L);
    }

    private static void promise12() {
        StairFines x = stairOf("ffff");
        due("reach", x.reach(), 4);
        x.make(0, false, 0);
        due("reach without place 0", x.reach(), 0);
        x = stairOf("fafh");
        due("9 and 11 meet by 4, 11 and 16 don't", x.reach(), 3);
        x.let(1, 5);
        due("11 and 16 meet by 5", x.reach(), 4);
        x.let(1, 1);
        due("11 and 9 don't meet by 1", x.reach(), 1);
        x.let(1, 2);
        due("11 and 9 meet by 2", x.reach(), 3);
        x = stairOf("hf");
        due("16 and 11 don't meet by 4", x.reach(), 1);
        x.let(1, 5);
        due("16 and 11 meet by 5", x.reach(), 2);
        StringBuilder all = new StringBuilder();
        for (int place = 0; place < 40; place++) {
            all.append('f');
        }
        x = stairOf(all.toString());
        due("reach, the pass", x.reach(), 40);
        x.make(20, false, 0);
        due("reach, broken", x.reach(), 20);
        x.make(20, true, 0);
        due("reach, made", x.reach(), 40);
        x.let(1, 0);
        due("reach, made, must be alike", x.reach(), 20);
    }

    private static void promise13() {
        StairFines x = stairOf("fhf.hf.f");
        due("faults", x.faults(), 1 << 1 | 1 << 2 | 1 << 5);
        x.let(1, 5);
        due("faults by 5", x.faults(), 0);
        x.let(1, 4);
        x.make(2, false, 0);
        due("faults, one is broken", x.faults(), 1 << 1 | 1 << 5);
        x.make(5, false, 0);
        due("faults, two are broken", x.faults(), 1 << 1);
        x = stairOf("f");
        x.fine(4, 2, 38);
        x.years(4);
        x.make(38, true, 0);
        due("whole", x.whole(), 1L | 1L << 38);
        due("no faults", x.faults(), 0);
        x.turn(1, 3);
        x.set(1, 1, 9);
        x.set(1, 2, 39);
        x.years(1);
        due("behind 38, and 0 has none ahead", x.faults(), 0);
        x.let(1, 0);
        due("faults by 0", x.faults(), 1L << 39);
    }

    private static void promise14() {
        StairFines x = new StairFines();
        x.fine(0, 3, 0);
        String was = Checks.seen(x);
        due("years(0)", x.years(0), BEYOND);
        due("years(-1)", x.years(-1), BEYOND);
        due("years(201)", x.years(201), BEYOND);
        due("years(MIN)", x.years(MIN), BEYOND);
        same("years", x, was);
        due("years(1)", x.years(1), 1);
        due("years(200)", x.years(200), 3);
        due("now(0)", x.now(0), 201);
        Checks.goTo(x, 9800);
        due("years(200) at 9800", x.years(200), STATE);
        due("years(201) at 9800: BEYOND first", x.years(201), BEYOND);
        due("now(0)", x.now(0), 9800);
        due("years(199) at 9800", x.years(199), 3);
        due("now(0)", x.now(0), 9999);
        x.set(0, 1, 5);
        was = Checks.seen(x);
        due("years(1) at 9999", x.years(1), STATE);
        same("years", x, was);

        x = new StairFines();
        Checks.goTo(x, 9799);
        x.fine(0, 1, 0);
        due("years(200) at 9799", x.years(200), 1);
        due("cut in", x.placeOf(0, 4), 9799);
    }

    private static void promise14frost() {
        // z: 1, 1103527590, 2524885223: the draws are 4310654 % 10 = 4, 9862832 % 10 = 2.
        StairFines x = stairOf("ff");
        x.let(0, 4);
        due("frost 4", x.years(1), 1);
        due("the first draw is 4, not below", x.placeOf(0, 1), 1);
        due("the second is 2, below", x.placeOf(1, 1), 0);
        due("z", x.count(3), (int) 2524885223L);
        x = stairOf("ff");
        x.let(0, 5);
        due("frost 5", x.years(1), 0);
        due("z", x.count(3), (int) 2524885223L);
        due("no whole ones, no draws", x.years(1), 0);
        due("z", x.count(3), (int) 2524885223L);
        x = stairOf(".f");
        x.let(0, 4);
        due("only whole ones draw", x.years(1), 1);
        due("z", x.count(3), 1103527590);
        x = stairOf("ff");
        due("no frost, no draws", x.years(9), 2);
        due("z", x.count(3), 1);
        // z becomes 2617: its draw is 10 % 10 = 0.
        x = stairOf("f");
        x.let(0, 1);
        x.seed((2617 - 12345) * INVERSE);
        due("frost 1 takes a draw of 0", x.years(1), 0);
        due("z", x.count(3), 2617);
        // z becomes 2873: its draw is 11 % 10 = 1.
        x = stairOf("f");
        x.let(0, 1);
        x.seed((2873 - 12345) * INVERSE);
        due("frost 1 leaves a draw of 1", x.years(1), 1);
        due("z", x.count(3), 2873);
        // z becomes -1: its draw is 16777215 % 10 = 5.
        x = stairOf("f");
        x.let(0, 5);
        x.seed((-1 - 12345) * INVERSE);
        due("frost 5 leaves a draw of 5", x.years(1), 1);
        due("z", x.count(3), -1);
        x = new StairFines();
        x.let(0, 9);
        x.fine(0, 1, 0);
        x.seed(0);
        // z becomes 12345: its draw is 48 % 10 = 8.
        due("cut, then taken by frost in the same year", x.years(1), 0);
        due("z", x.count(3), 12345);
        due("it is paid", x.of(0, 1), 0);
    }

    private static void promise14goingOn() {
        StairFines x = stairOf("ff");
        x.fine(0, 40, 0);
        x.rock(2, 9);
        x.years(1);
        due("it went on to 2", x.of(1, 2), 2);
        due("and worked there at once", x.of(1, 4), 3);
        x.fine(1, 40, 2);
        x.set(2, 3, 9);
        x.years(1);
        due("the other cut 2", x.placeOf(2, 3), 2);
        due("it worked, too", x.of(1, 4), 6);
        x.rock(3, 9);
        x.years(1);
        due("it left 2, its work there is lost", x.of(1, 4) * 100 + x.of(1, 2), 303);
        due("and the other is at 3, too, and cut it", x.placeOf(3, 3), 2);

        x = new StairFines();
        x.fine(0, 2, 39);
        x.years(2);
        due("behind 39: 0", x.whole(), 1L << 39 | 1);
        x.years(1);
        due("it owes nothing, and stays", x.of(0, 2), 0);

        x = new StairFines();
        x.fine(4, 3, 0);
        x.years(2);
        due("feigned counts 2", x.of(0, 1), 1);
        x.years(2);
        due("0 at least", x.of(0, 1), 0);

        x = new StairFines();
        x.fine(0, 40, 7);
        for (int place = 0; place < 40; place++) {
            if (place != 6) {
                x.make(place, true, 0);
            }
        }
        x.rock(6, 9);
        x.years(1);
        due("all around to 6", x.of(0, 2) * 100 + x.of(0, 4), 603);
        x.make(6, true, 0);
        x.years(3);
        due("all are whole: it stays and doesn't work", x.of(0, 2) * 100 + x.of(0, 4), 603);
        due("and owes as much", x.of(0, 1), 40);
        x.make(6, false, 0);
        x.years(1);
        due("it works on", x.of(0, 4), 6);

        x = new StairFines();
        x.fine(0, 5, 3);
        x.set(0, 3, 9);
        x.years(1);
        due("one step a year", x.whole(), 8);
        due("work is 0", x.of(0, 4), 0);
        due("it is still there", x.of(0, 2), 3);

        x = new StairFines();
        for (int fine = 0; fine < 3; fine++) {
            x.fine(5, 9, 10 * fine);
            x.set(fine, 3, 1);
            x.rock(10 * fine, 9);
        }
        for (int place = 31; place < 40; place++) {
            x.make(place, true, 0);
        }
        x.make(30, true, 0);
        x.make(29, true, 0);
        x.make(29, false, 0);
        x.rock(0, 4);
        x.years(1);
        due("saintly: 30 aren't whole, then 29", x.placeOf(0, 1) * 100 + x.of(1, 4) * 10 + x.of(2, 4), 133);
    }

    private static void promise15and16() {
        StairFines x = new StairFines();
        due("seed(MIN)", x.seed(MIN), 1);
        due("seed(-1000000001)", x.seed(-1000000001), MIN);
        due("seed(0)", x.seed(0), -1000000001);
        due("these are no findings", x.status(-1), 0);
        x.fine(0, 30, 0);
        x.fine(1, 12, 20);
        x.years(3);
        x.let(0, 6);
        x.let(1, 13);
        due("now(0)", x.now(0), 3);
        due("now(1)", x.now(1), 6);
        due("now(2)", x.now(2), 13);
        due("now(3)", x.now(3), 6);
        due("now(4)", x.now(4), 36);
        due("now(-1)", x.now(-1), BEYOND);
        due("now(5)", x.now(5), BEYOND);
        due("status(0)", x.status(0), 2);
    }
}
