/** Promises 34 to 39: sheets. */
final class SheetTest extends Promises {
    private SheetTest() {
    }

    public static void main(String[] args) {
        promise34();
        promise35();
        promise36();
        promise37();
        promise38();
        promise39();
        Checks.end();
    }

    private static void promise34() {
        StairFines x = new StairFines();
        due("sheet(0, 8, 40)", x.sheet(0, 8, 40), 40);
        due("sheet(1, 16, 1)", x.sheet(1, 16, 1), 1);
        due("sheet(2, 64, 0)", x.sheet(2, 64, 0), 0);
        due("sheet(3, 0, 40)", x.sheet(3, 0, 40), 0);
        due("a sheet of none isn't missing", x.lays(2), 0);
        due("one of no bits is", x.lays(3), MISSING);
        x.write(0, 39, 5);
        due("sheet(-1, 8, 3)", x.sheet(-1, 8, 3), BEYOND);
        due("sheet(4, 8, 3)", x.sheet(4, 8, 3), BEYOND);
        due("sheet(0, 32, 3)", x.sheet(0, 32, 3), BEYOND);
        due("sheet(0, -8, 3)", x.sheet(0, -8, 3), BEYOND);
        due("sheet(0, 1, 3)", x.sheet(0, 1, 3), BEYOND);
        due("sheet(0, 8, -1)", x.sheet(0, 8, -1), SIZE);
        due("sheet(0, 0, -1)", x.sheet(0, 0, -1), SIZE);
        due("sheet(0, 0, MIN)", x.sheet(0, 0, MIN), SIZE);
        due("sheet(0, 7, -1): BEYOND first", x.sheet(0, 7, -1), BEYOND);
        due("sheet(9, 8, -1): BEYOND first", x.sheet(9, 8, -1), BEYOND);
        due("sheet(0, 8, 41)", x.sheet(0, 8, 41), BEYOND);
        due("sheet(0, 0, 41)", x.sheet(0, 0, 41), BEYOND);
        due("sheet(0, 64, MAX)", x.sheet(0, 64, MAX), BEYOND);
        due("status(6)", x.status(6), 3);
        due("the sheet stays", x.write(0, 39, 6), 5);
        due("sheet(0, 8, 40), all 0", x.sheet(0, 8, 40), 40);
        due("all 0", x.write(0, 39, 6), 0);
        due("sheet(0, 16, 20)", x.sheet(0, 16, 20), 20);
        due("shorter", x.write(0, 20, 6), BEYOND);
        due("sheet(0, 0, 0)", x.sheet(0, 0, 0), 0);
        due("missing", x.write(0, 0, 6), MISSING);
    }

    private static void promise35() {
        StairFines x = new StairFines();
        x.sheet(0, 8, 3);
        x.sheet(1, 16, 3);
        x.sheet(2, 64, 3);
        long[] given = {127, 128, 255, 256, -1, 32767, 32768, 65536, Long.MAX_VALUE, Long.MIN_VALUE, -1000000001L};
        for (long v : given) {
            x.write(0, 0, v);
            due("8 bits of " + v, x.write(0, 0, 0), (byte) v);
            x.write(1, 2, v);
            due("16 bits of " + v, x.write(1, 2, 0), (short) v);
            x.write(2, 1, v);
            due("64 bits of " + v, x.write(2, 1, 0), v);
        }
        due("these were no findings", x.status(-1), 0);
        due("write(-1, 0, 1)", x.write(-1, 0, 1), BEYOND);
        due("write(4, 0, 1)", x.write(4, 0, 1), BEYOND);
        due("write(3, 0, 1)", x.write(3, 0, 1), MISSING);
        due("write(3, -1, 1): MISSING first", x.write(3, -1, 1), MISSING);
        due("write(4, -1, 1)", x.write(4, -1, 1), BEYOND);
        due("write(0, -1, 1)", x.write(0, -1, 1), BEYOND);
        due("write(0, 3, 1)", x.write(0, 3, 1), BEYOND);
        due("write(0, MAX, 1)", x.write(0, MAX, 1), BEYOND);
        due("write(0, MIN, 1)", x.write(0, MIN, 1), BEYOND);
        due("status(5)", x.status(5), 2);
        due("status(0)", x.status(0), 7);
    }

    private static StairFines twoSheets() {
        StairFines x = new StairFines();
        x.sheet(0, 16, 5);
        x.sheet(1, 16, 3);
        x.sheet(2, 8, 5);
        for (int i = 0; i < 5; i++) {
            x.write(0, i, 10 + i);
            x.write(1, i, 20 + i);
        }
        return x;
    }

    /** The sheet's numbers are these, and stay. */
    private static void holds(StairFines x, int s, int... numbers) {
        for (int i = 0; i < numbers.length; i++) {
            long was = x.write(s, i, 0);
            due("number " + i + " of sheet " + s, was, numbers[i]);
            x.write(s, i, was);
        }
    }

    private static void promise36() {
        StairFines x = twoSheets();
        due("copy(0, 2, 1, 0, 3)", x.copy(0, 2, 1, 0, 3), 3);
        holds(x, 1, 12, 13, 14);
        holds(x, 0, 10, 11, 12, 13, 14);
        x = twoSheets();
        due("copy on itself, forwards", x.copy(0, 0, 0, 1, 4), 4);
        holds(x, 0, 10, 10, 11, 12, 13);
        x = twoSheets();
        due("copy on itself, backwards", x.copy(0, 1, 0, 0, 4), 4);
        holds(x, 0, 11, 12, 13, 14, 14);
        due("copy none at the end", x.copy(0, 5, 1, 3, 0), 0);
        due("copy(-1, ..)", x.copy(-1, 0, 0, 0, 1), BEYOND);
        due("copy(.., 4, ..)", x.copy(0, 0, 4, 0, 1), BEYOND);
        due("copy from a missing one", x.copy(3, 0, 0, 0, 1), MISSING);
        due("copy to a missing one", x.copy(0, 0, 3, 0, 1), MISSING);
        due("copy from a missing one to none: BEYOND first", x.copy(3, 0, 4, 0, 1), BEYOND);
        due("copy to a missing one: MISSING ahead of BEYOND", x.copy(0, -1, 3, 0, 1), MISSING);
        due("copy of other bits", x.copy(0, 0, 2, 0, 1), KIND);
        due("copy of other bits: KIND ahead of BEYOND", x.copy(2, 9, 0, 0, -1), KIND);
        due("copy(0, 3, 1, 0, 3)", x.copy(0, 3, 1, 0, 3), BEYOND);
        due("copy(0, 0, 1, 1, 3)", x.copy(0, 0, 1, 1, 3), BEYOND);
        due("copy from -1", x.copy(0, -1, 1, 0, 1), BEYOND);
        due("copy to -1", x.copy(0, 0, 1, -1, 1), BEYOND);
        due("copy of -1", x.copy(0, 1, 1, 1, -1), BEYOND);
        due("copy from 6 none", x.copy(0, 6, 1, 0, 0), BEYOND);
        due("copy from MAX", x.copy(0, MAX, 1, 0, MAX), BEYOND);
        due("copy of MAX", x.copy(0, 1, 1, 0, MAX), BEYOND);
        due("copy of MIN", x.copy(0, 1, 1, 1, MIN), BEYOND);
        holds(x, 0, 11, 12, 13, 14, 14);
        holds(x, 1, 20, 21, 22);
        due("status(2)", x.status(2), 2);
        due("status(5)", x.status(5), 3);
    }

    private static void promise37() {
        StairFines x = new StairFines();
        x.sheet(0, 64, 40);
        long[] v = {1, 9, 0, 10, -1, 5, 4294967297L, Long.MIN_VALUE};
        for (int i = 0; i < v.length; i++) {
            x.write(0, i, v[i]);
        }
        x.write(0, 39, 7);
        due("lays(0)", x.lays(0), 4);
        int[] due = {1, 9, 3, 3, 3, 5, 3, 3};
        for (int i = 0; i < due.length; i++) {
            due("rock at " + i, x.placeOf(i, 0), due[i]);
        }
        due("rock at 39", x.placeOf(39, 0), 7);
        x.sheet(1, 8, 2);
        x.write(1, 0, 2);
        x.write(1, 1, 257);
        due("lays(1)", x.lays(1), 2);
        due("rock at 1", x.placeOf(1, 0), 1);
        due("rock at 5", x.placeOf(5, 0), 5);
        due("lays(2)", x.lays(2), MISSING);
        due("lays(-1)", x.lays(-1), BEYOND);
        due("lays(4)", x.lays(4), BEYOND);
    }

    private static void promise38() {
        StairFines x = stairOf("f.ah");
        x.sheet(0, 8, 40);
        x.sheet(1, 64, 3);
        x.write(0, 1, 77);
        x.write(0, 39, 78);
        due("stair(0, 0)", x.stair(0, 0), 40);
        holds(x, 0, 11, 0, 9, 16, 0);
        due("number 39", x.write(0, 39, 0), 0);
        due("stair(1, 0)", x.stair(1, 0), 3);
        holds(x, 1, 11, 0, 9);
        x.fine(4, 4, 1);
        x.set(1, 3, 9);
        String was = Checks.seen(x);
        due("stair(0, 1)", x.stair(0, 1), 40);
        holds(x, 0, 11, 19, 9, 16, 0, 0);
        due("stair(0, 200)", x.stair(0, 200), 40);
        holds(x, 0, 11, 19, 9, 16, 19, 0);
        same("stair", x, was);
        x.sheet(2, 16, 0);
        due("stair of none", x.stair(2, 3), 0);
        due("stair(-1, 0)", x.stair(-1, 0), BEYOND);
        due("stair(4, 0)", x.stair(4, 0), BEYOND);
        due("stair(3, 0)", x.stair(3, 0), MISSING);
        due("stair(3, 201): MISSING first", x.stair(3, 201), MISSING);
        due("stair(0, -1)", x.stair(0, -1), BEYOND);
        due("stair(0, 201)", x.stair(0, 201), BEYOND);
        holds(x, 0, 11, 19, 9, 16, 19, 0);
        Checks.goTo(x, 9800);
        x.write(0, 0, 99);
        due("stair(0, 200) at 9800", x.stair(0, 200), STATE);
        due("stair(0, 201) at 9800", x.stair(0, 201), BEYOND);
        due("stair(3, 200) at 9800", x.stair(3, 200), MISSING);
        holds(x, 0, 99);
        due("stair(0, 199) at 9800", x.stair(0, 199), 40);
        holds(x, 0, 11);
    }

    private static void promise39() {
        StairFines x = new StairFines();
        x.fine(0, 30, 0);
        x.sheet(0, 8, 40);
        for (int i = 0; i < 40; i++) {
            x.write(0, i, Math.min(i, 30));
        }
        String was = Checks.seen(x);
        due("read(0)", x.read(0), 0);
        x.write(0, 39, 31);
        due("the last is wrong", x.read(0), 40);
        x.write(0, 7, 8);
        due("7 is wrong", x.read(0), 8);
        x.write(0, 0, 1);
        due("0 is wrong", x.read(0), 1);
        x.sheet(1, 64, 2);
        x.write(1, 1, 4294967297L);
        due("64 bits are looked at", x.read(1), 2);
        x.write(1, 1, 1);
        due("read(1)", x.read(1), 0);
        x.sheet(2, 16, 0);
        due("read of none", x.read(2), 0);
        due("read(3)", x.read(3), MISSING);
        due("read(-1)", x.read(-1), BEYOND);
        due("read(4)", x.read(4), BEYOND);
        same("read", x, was);
        Checks.goTo(x, 9959);
        due("read(2) at 9959", x.read(2), 0);
        x.years(1);
        due("read(2) at 9960", x.read(2), STATE);
        due("read(3) at 9960", x.read(3), MISSING);
        due("read(4) at 9960", x.read(4), BEYOND);
    }
}
