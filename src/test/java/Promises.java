/** What the tests of the promises share. */
class Promises {
    static final int MIN = Integer.MIN_VALUE;
    static final int MAX = Integer.MAX_VALUE;
    static final long BEYOND = Checks.BEYOND;
    static final long FULL = Checks.FULL;
    static final long KIND = Checks.KIND;
    static final long NONE = Checks.NONE;
    static final long STATE = Checks.STATE;
    static final long MISSING = Checks.MISSING;
    static final long SIZE = Checks.SIZE;

    static void due(String call, long got, long want) {
        Checks.due(call, got, want);
    }

    /** Nothing that can be seen has changed. */
    static void same(String call, StairFines x, String was) {
        due(call + " changed nothing", Checks.seen(x).equals(was) ? 1 : 0, 1);
    }

    /** A stair from place 0 on, cut in rock of 3 in year 0 to 39: f fine (11 high), a alms (9), h hasty (16), . not. */
    static StairFines stairOf(String steps) {
        StairFines x = new StairFines();
        x.fine(0, 1, 0);
        for (int place = 0; place < steps.length(); place++) {
            int kind = "f.ah".indexOf(steps.charAt(place));
            if (kind == 1) {
                continue;
            }
            x.turn(0, kind);
            x.set(0, 1, 1);
            x.set(0, 2, place);
            x.years(1);
        }
        x.set(0, 1, 0);
        x.set(0, 2, 0);
        x.turn(0, 0);
        return x;
    }
}
