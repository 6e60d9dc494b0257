/** Promises 31 to 33: the text. */
final class TextTest extends Promises {
    private TextTest() {
    }

    public static void main(String[] args) {
        promise31and32();
        fines();
        rocks();
        frostAndMeets();
        tokens();
        faults();
        full();
        Checks.end();
    }

    private static void promise31and32() {
        StairFines x = new StairFines();
        due("wipe() of nothing", x.wipe(), 0);
        due("feed, lowest byte", x.feed(0x66666666, 1), 1);
        due("feed, two", x.feed(0x00006672, 2), 3);
        due("wipe()", x.wipe(), 3);
        due("count(1)", x.count(1), 0);
        // "fros", "t 7" behind it: the highest of the bytes first.
        due("feed(fros)", x.feed(0x66726f73, 4), 4);
        due("feed(t 7)", x.feed(0x58742037, 3), 7);
        due("court()", x.court(), 1);
        due("frost", x.now(1), 7);
        due("the tape is empty", x.count(1), 0);
        due("feed(0, 0)", x.feed(0, 0), BEYOND);
        due("feed(0, 5)", x.feed(0, 5), BEYOND);
        due("feed(0, -1)", x.feed(0, -1), BEYOND);
        due("feed(0, MAX)", x.feed(0, MAX), BEYOND);
        for (int i = 1; i <= 29; i++) {
            due("feed", x.feed(0x20202020, 4), 4 * i);
        }
        due("feed", x.feed(0x20202020, 1), 117);
        due("feed over the end", x.feed(0x20202020, 4), FULL);
        due("count(1)", x.count(1), 117);
        due("feed to the end", x.feed(0x20202020, 3), 120);
        due("feed over the end", x.feed(0x20202020, 1), FULL);
        due("feed over the end, BEYOND first", x.feed(0x20202020, 5), BEYOND);
        due("count(1)", x.count(1), 120);
        due("court() of blanks", x.court(), -121);
        due("status(1)", x.status(1), 2);
        due("status(-1)", x.status(-1), 7);
    }

    private static void fines() {
        String[] names = {"fine", "shared", "alms", "hasty", "feigned", "saintly"};
        StairFines x = new StairFines();
        for (int kind = 0; kind < 6; kind++) {
            due(names[kind], Checks.court(x, names[kind] + " 7 at 12"), 1);
            due("kind", x.of(kind, 0), kind);
            due("steps", x.of(kind, 1), 7);
            due("place", x.of(kind, 2), 12);
            due("arm", x.of(kind, 3), 3);
            due("work", x.of(kind, 4), 0);
        }
        due("arm", Checks.court(x, "fine 1 at 0 arm 1;fine 40 at 39 arm 9"), 2);
        due("steps", x.of(6, 1), 1);
        due("place", x.of(6, 2), 0);
        due("arm", x.of(6, 3), 1);
        due("steps", x.of(7, 1), 40);
        due("place", x.of(7, 2), 39);
        due("arm", x.of(7, 3), 9);
        due("count(0)", x.count(0), 8);
        fault("fine 0 at 1", 5);
        fault("fine 41 at 1", 5);
        fault("fine at 1", 5);
        fault("fine 3 1", 7);
        fault("fine 3 to 1", 7);
        fault("fine 3 at 40", 10);
        fault("fine 3 at at", 10);
        fault("fine 3 at 1 arm 0", 16);
        fault("fine 3 at 1 arm 10", 16);
        fault("fine 3 at 1 arm", 15);
        fault("fine 3 at 1 arm ;", 16);
        fault("fine 3 at 1 of 3", 12);
        fault("fine 3 at 1 arm 3 arm 3", 18);
    }

    private static void rocks() {
        StairFines x = new StairFines();
        due("rock", Checks.court(x, "rock 7 of 9"), 1);
        due("7", x.placeOf(7, 0), 9);
        due("6 and 8", x.placeOf(6, 0) * 10 + x.placeOf(8, 0), 33);
        due("rock to", Checks.court(x, "rock 0 to 39 of 1;rock 5 to 5 of 2;rock 38 to 39 of 4"), 3);
        due("0", x.placeOf(0, 0), 1);
        due("5", x.placeOf(5, 0), 2);
        due("37 to 39", x.placeOf(37, 0) * 100 + x.placeOf(38, 0) * 10 + x.placeOf(39, 0), 144);
        due("rock 39", Checks.court(x, "rock 39 of 8"), 1);
        due("38 and 39", x.placeOf(38, 0) * 10 + x.placeOf(39, 0), 48);
        due("the later holds", Checks.court(x, "rock 1 of 5;rock 1 of 6"), 2);
        due("1", x.placeOf(1, 0), 6);
        fault("rock 40 of 1", 5);
        fault("rock of 1", 5);
        fault("rock 4 to 3 of 1", 10);
        fault("rock 4 to 40 of 1", 10);
        fault("rock 4 to of 1", 10);
        fault("rock 4 at 1", 7);
        fault("rock 4 1", 7);
        fault("rock 4 of 0", 10);
        fault("rock 4 of 10", 10);
        fault("rock 4 to 5 to 6 of 1", 12);
        fault("rock 4 of 5 to 6", 12);
    }

    private static void frostAndMeets() {
        StairFines x = new StairFines();
        due("both", Checks.court(x, "frost 9;meets 20"), 2);
        due("frost", x.now(1), 9);
        due("meets", x.now(2), 20);
        due("both", Checks.court(x, "meets 0 ; frost 0"), 2);
        due("frost", x.now(1), 0);
        due("meets", x.now(2), 0);
        fault("frost 10", 6);
        fault("frost", 5);
        fault("frost of 3", 6);
        fault("meets 21", 6);
        fault("meets", 5);
        fault("meets;", 5);
    }

    private static void tokens() {
        StairFines x = new StairFines();
        due("no blanks", Checks.court(x, "hasty3at5arm7;rock1to2of3;frost4;meets5"), 4);
        due("arm", x.of(0, 3), 7);
        due("many blanks", Checks.court(x, "  meets   7  ;  frost  1  "), 2);
        due("meets", x.now(2), 7);
        due("nulls ahead", Checks.court(x, "meets 000000000000000000000000019"), 1);
        due("meets", x.now(2), 19);
        fault("meets 4294967296", 6);
        fault("meets 9999", 6);
        fault("meets 10000", 6);
        fault("meets 99999999999999999999999999", 6);
        fault("fineat", 0);
        fault("finefine 3 at 1", 0);
        fault("fin 3 at 1", 0);
        fault("wine 3 at 1", 0);
        fault("finez 3 at 1", 0);
        fault("afine 3 at 1", 0);
        fault("`fine 3 at 1", 0);
        fault("{fine 3 at 1", 0);
        fault("frost :", 6);
        fault("frost /", 6);
        fault("Fine 3 at 1", 0);
        fault("fine 3 AT 1", 7);
        fault("fine -3 at 1", 5);
        fault("fine 3\tat 1", 6);
        fault("frost 3\n", 7);
        fault("frost 3 \u00e9", 8);
        fault("frost 3\u0000", 7);
        fault("\u00ff", 0);
        fault("frost 3,frost 4", 7);
        StairFines y = new StairFines();
        due("all 120 bytes", Checks.court(y, "frost 1;".repeat(14) + "frost  8"), 15);
        due("frost", y.now(1), 8);
        due("all 120 bytes, a word at the end", Checks.court(y, "frost 1;".repeat(14) + "frostxyz"), -113);
        due("all 120 bytes, a number at the end", Checks.court(y, "frost 1;".repeat(14) + "frost108"), -118);
        Checks.feed(y, "fine 33 at 11");
        y.wipe();
        due("what was wiped isn't read: fin", Checks.court(y, "fin"), -1);
        due("what was wiped isn't read: 3", Checks.court(y, "fine 3"), -7);
        due("all 120 bytes, cut off", Checks.court(y, "frost 1;".repeat(15)), -121);
        due("frost", y.now(1), 8);
    }

    private static void faults() {
        fault("", 0);
        fault(" ", 1);
        fault(";", 0);
        fault(" ;frost 3", 1);
        fault("frost 3;", 8);
        fault("frost 3; ", 9);
        fault("frost 3;;frost 4", 8);
        fault("frost 3 frost 4", 8);
        fault("frost 3 4", 8);
        fault("3", 0);
        fault("at 3", 0);
        fault("fine", 4);
        fault("fine 3 ", 7);
        fault("fine 3 at", 9);
        fault("rock", 4);
        fault("rock 3", 6);
        fault("rock 3 to", 9);
        fault("rock 3 to 4", 11);
        fault("rock 3 to 4 of", 14);
        fault("frost 3; meets 5; fine 3 at 99", 28);
        fault("rock 0 to 39 of 9; fine 3 at 4 arm 5; frost 10", 44);
    }

    private static void full() {
        StairFines x = nineFines();
        String was = Checks.seen(x);
        due("an 11th in the text", Checks.court(x, "fine 1 at 1; alms 1 at 1"), -14);
        same("court", x, was);
        x = nineFines();
        due("the 10th", Checks.court(x, "fine 1 at 1;frost 2"), 2);
        was = Checks.seen(x);
        due("an 11th, its own place ahead of later faults", Checks.court(x, "frost 3; saintly 99 # 1"), -10);
        due("an 11th that ends", Checks.court(x, "hasty"), -1);
        due("another word", Checks.court(x, "hastyy"), -1);
        same("court", x, was);
        due("others may come", Checks.court(x, "frost 3"), 1);
        due("no findings", x.status(-1), 0);
    }

    private static StairFines nineFines() {
        StairFines x = new StairFines();
        for (int fine = 0; fine < 9; fine++) {
            x.fine(0, 1, 0);
        }
        return x;
    }

    /** The text has its first fault there, and changes nothing. */
    private static void fault(String text, int place) {
        StairFines x = new StairFines();
        x.fine(1, 2, 3);
        x.let(0, 5);
        x.let(1, 6);
        String was = Checks.seen(x);
        due("court of \"" + text + "\"", Checks.court(x, text), -1 - place);
        same("court of \"" + text + "\"", x, was);
        due("no finding", x.status(-1), 0);
    }
}
