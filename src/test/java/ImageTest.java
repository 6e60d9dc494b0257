/** Promises 40 to 44: images, count, status. */
final class ImageTest extends Promises {
    private ImageTest() {
    }

    public static void main(String[] args) {
        promise40and41();
        promise41again();
        promise42();
        cuttersAndYears();
        promise43();
        promise44();
        Checks.end();
    }

    private static StairFines cutAndTurned() {
        StairFines x = new StairFines();
        x.fine(3, 9, 4);
        x.fine(5, 9, 14);
        x.let(0, 2);
        x.let(1, 9);
        x.rock(7, 7);
        x.years(5);
        x.turn(0, 4);
        x.set(0, 3, 7);
        return x;
    }

    private static void promise40and41() {
        StairFines x = cutAndTurned();
        String was = Checks.seen(cutAndTurned());
        due("undo() of nothing", x.undo(), NONE);
        due("image()", x.image(), 1);
        same("image", x, was);
        x.fine(0, 1, 1);
        x.turn(0, 1);
        x.set(0, 3, 1);
        x.set(1, 1, 33);
        x.let(0, 1);
        x.let(1, 1);
        x.rock(7, 1);
        x.make(39, true, 2);
        x.years(9);
        x.seed(99);
        x.feed(0, 3);
        x.sheet(0, 8, 7);
        x.sheet(0, 9, 7);
        due("undo()", x.undo(), 2);
        due("the tape stays", x.wipe(), 3);
        same("undo", x, was);
        due("sheets stay", x.lays(0), 0);
        due("status stays", x.status(-1), 2);
    }

    private static void promise41again() {
        StairFines x = cutAndTurned();
        x.image();
        x.years(3);
        x.undo();
        x.years(4);
        due("undo() again", x.undo(), 2);
        same("undo", x, Checks.seen(cutAndTurned()));
        x.fine(0, 1, 1);
        x.image();
        String second = Checks.seen(x);
        x.years(1);
        due("undo() of the latest", x.undo(), 3);
        same("undo", x, second);
    }

    private static void promise42() {
        StairFines x = cutAndTurned();
        due("tear() of nothing", x.tear(), 0);
        x.image();
        due("tear()", x.tear(), 1);
        due("tear() again", x.tear(), 0);
        due("undo()", x.undo(), NONE);
        same("undo", x, Checks.seen(cutAndTurned()));
        x.on(100);
        x.image();
        Checks.court(x, "fine 3 at 3;#");
        due("questions and faults don't touch the image", x.undo(), 2);
        same("undo", x, Checks.seen(cutAndTurned()));
    }

    private static void cuttersAndYears() {
        StairFines x = stairOf("ffff");
        x.fine(4, 9, 20);
        String was = Checks.seen(x);
        x.image();
        x.years(3);
        for (int place = 0; place < 4; place++) {
            x.make(place, false, 0);
            x.make(place, true, 1);
        }
        due("another cutter", x.placeOf(2, 3), 1);
        due("another year", x.placeOf(2, 4), 7);
        due("undo()", x.undo(), 2);
        same("undo", x, was);
        due("the cutter", x.placeOf(2, 3), 0);
        due("the year", x.placeOf(2, 4), 2);
        due("high", x.placeOf(2, 2), 11);
    }

    private static void promise43() {
        StairFines x = stairOf("fha");
        x.fine(0, 1, 1);
        x.feed(0, 4);
        x.feed(0, 1);
        x.seed(-1000000003);
        due("count(0)", x.count(0), 2);
        due("count(1)", x.count(1), 5);
        due("count(2)", x.count(2), 36);
        due("count(3)", x.count(3), -1000000003);
        due("status(-1)", x.status(-1), 0);
        x.make(1, false, 0);
        due("count(2), one broken", x.count(2), 20);
        due("count(-1)", x.count(-1), BEYOND);
        due("count(4)", x.count(4), BEYOND);
        due("count(MIN)", x.count(MIN), BEYOND);
        due("status(0)", x.status(0), 3);
    }

    private static void promise44() {
        StairFines x = new StairFines();
        for (int fine = 0; fine < 10; fine++) {
            x.fine(0, 1, 0);
        }
        for (int which = -1; which <= 6; which++) {
            due("status(" + which + ")", x.status(which), 0);
        }
        x.rock(0, 0);
        for (int i = 0; i < 2; i++) {
            x.fine(0, 1, 0);
        }
        for (int i = 0; i < 3; i++) {
            x.as(0, 1);
        }
        for (int i = 0; i < 4; i++) {
            x.undo();
        }
        for (int i = 0; i < 5; i++) {
            x.placeOf(0, 2);
        }
        for (int i = 0; i < 6; i++) {
            x.lays(0);
        }
        for (int i = 0; i < 7; i++) {
            x.sheet(0, 8, -1);
        }
        for (int which = 0; which <= 6; which++) {
            due("status(" + which + ")", x.status(which), which + 1);
        }
        due("status(-1)", x.status(-1), 28);
        due("status(7)", x.status(7), BEYOND);
        due("status(-2)", x.status(-2), BEYOND);
        due("status(MIN)", x.status(MIN), BEYOND);
        due("status(MAX)", x.status(MAX), BEYOND);
        due("status(0), these counted", x.status(0), 5);
        due("status(-1), these counted", x.status(-1), 32);
        x.image();
        x.rock(0, 0);
        x.undo();
        due("undo takes none back", x.status(0), 6);
    }
}
