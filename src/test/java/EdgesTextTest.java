/** Boundary cases of promises 31 to 33: feed, wipe, court, with all that the terms tell of THE TEXT. */
final class EdgesTextTest extends Edges {
    private static final String[] NAMES = {"fine", "shared", "alms", "hasty", "feigned", "saintly"};

    private EdgesTextTest() {
    }

    public static void main(String[] args) {
        promise31();
        promise31full();
        promise32();
        promise33();
        promise33numbers();
        promise33bounds();
        promise33faults();
        promise33endsTooEarly();
        promise33tokens();
        promise33words();
        promise33bytes();
        promise33tenFines();
        promise33oneHundredAndTwenty();
        end(31, 33);
    }

    // ---- feed

    private static void promise31() {
        range(31, "n", 1, 4, Edges::rich, (x, v) -> x.feed(0x20202020, v));
        test(31, "how many it has", x -> {
            due("1", x.feed(0, 1), 1);
            due("2", x.feed(0, 2), 3);
            due("3", x.feed(0, 3), 6);
            due("4", x.feed(0, 4), 10);
            due("bytes", x.count(1), 10);
        });
        test(31, "four bytes, the highest first", x -> {
            x.feed(0x66726f73, 4);
            x.feed(0x74202037, 4);
            due("frost  7", x.court(), 1);
            due("FROST", x.now(1), 7);
        });
        test(31, "three, two, one byte: the lowest, whatever is above", x -> {
            x.feed(0xff66726f, 3);
            x.feed(0xffff7374, 2);
            x.feed(0xffffff37, 1);
            due("frost7", x.court(), 1);
            due("FROST", x.now(1), 7);
        });
        test(31, "a byte above 127 is one byte", x -> {
            x.feed(-1, 4);
            due("bytes", x.count(1), 4);
            due("they begin no TOKEN", x.court(), -1);
        });
        test(31, "a byte above 127 isn't the one 128 below it", x -> {
            Checks.feed(x, "frost ");
            x.feed(0x80 + '7', 1);
            due("it begins no TOKEN", x.court(), -7);
        });
    }

    private static void promise31full() {
        int[][] fits = {{116, 4}, {117, 3}, {118, 2}, {119, 1}};
        for (int[] row : fits) {
            answers(31, row[1] + " behind " + row[0], 120, () -> blanks(row[0]), x -> x.feed(0x20202020, row[1]));
        }
        int[][] full = {{117, 4}, {118, 3}, {118, 4}, {119, 2}, {119, 4}, {120, 1}, {120, 4}};
        for (int[] row : full) {
            refused(31, row[1] + " behind " + row[0], FULL, () -> blanks(row[0]), x -> x.feed(0x66666666, row[1]));
        }
        for (int n : new int[] {0, 5, -1, MIN, MAX}) {
            refused(31, n + " behind 120: BEYOND first", BEYOND, () -> blanks(120), x -> x.feed(0, n));
        }
        test(31, "less may fit behind one that was FULL", () -> blanks(118), x -> {
            due("3", x.feed(0, 3), FULL);
            due("2", x.feed(0, 2), 120);
        });
    }

    /** A tape of so many bytes that begins with a good item. */
    private static StairFines blanks(int bytes) {
        StairFines x = new StairFines();
        Checks.feed(x, "frost 7" + " ".repeat(bytes - 7));
        return x;
    }

    // ---- wipe

    private static void promise32() {
        answers(32, "an empty one", 0, StairFines::new, x -> x.wipe());
        answers(32, "a full one", 120, () -> blanks(120), x -> x.wipe());
        test(32, "it is empty then", Edges::rich, x -> {
            due("how many it had", x.wipe(), 24);
            due("bytes", x.count(1), 0);
            due("again", x.wipe(), 0);
            due("no TEXT", x.court(), -1);
        });
        test(32, "120 bytes fit again", () -> blanks(120), x -> {
            x.wipe();
            for (int i = 1; i <= 30; i++) {
                due("feed", x.feed(0x20202020, 4), 4 * i);
            }
            due("no more", x.feed(0x20202020, 1), FULL);
        });
        test(32, "what it had isn't read again", () -> blanks(120), x -> {
            x.wipe();
            due("frost", Checks.court(x, "frost"), -6);
            due("FROST", x.now(1), 0);
        });
        test(32, "nothing else changes", Edges::rich, x -> {
            x.wipe();
            for (int i = 0; i < 6; i++) {
                x.feed(0, 4);
            }
            same("as with other bytes", x, Checks.seen(rich()));
            due("numbers", x.write(1, 4, 0), 304);
            due("the image", x.undo(), 6);
        });
    }

    // ---- court

    private static void promise33() {
        test(33, "THE TAPE is empty behind a TEXT", x -> {
            due("items", Checks.court(x, "frost 1"), 1);
            due("bytes", x.count(1), 0);
            due("no TEXT again", x.court(), -1);
        });
        test(33, "THE TAPE is empty behind a FAULT", x -> {
            due("fault", Checks.court(x, "frost x"), -7);
            due("bytes", x.count(1), 0);
            due("a TEXT may follow", Checks.court(x, "frost 1"), 1);
        });
        test(33, "a FAULT is no finding", x -> {
            Checks.court(x, "frost x");
            for (int which = -1; which <= 6; which++) {
                due("status(" + which + ")", x.status(which), 0);
            }
        });
        fault("", 0);
        fault(" ", 1);
        fault(";", 0);
        test(33, "a FAULT leaves the image and the sheets", Edges::rich, x -> {
            x.wipe();
            due("fault", Checks.court(x, "frost 5;meets x"), -15);
            due("numbers", x.write(1, 4, 0), 304);
            due("the image", x.undo(), 6);
            due("YEAR", x.now(0), 3);
        });
        test(33, "a TEXT leaves the image and the sheets", Edges::rich, x -> {
            due("items", x.court(), 2);
            due("MEETS", x.now(2), 3);
            due("numbers", x.write(1, 4, 0), 304);
            due("the image", x.undo(), 6);
            due("MEETS of the image", x.now(2), 7);
        });
        test(33, "items come one behind the other", x -> {
            due("items", Checks.court(x, "frost 1;frost 2;rock 3 to 5 of 9;rock 4 of 1"), 4);
            due("FROST, the later", x.now(1), 2);
            due("ROCK", x.placeOf(3, 0) * 100 + x.placeOf(4, 0) * 10 + x.placeOf(5, 0), 919);
        });
    }

    /** The first and the last number that may be, in each place where one stands. */
    private static void promise33numbers() {
        for (int k = 0; k < 6; k++) {
            int kind = k;
            test(33, NAMES[kind] + " with the least and the greatest numbers", x -> {
                due("items", Checks.court(x, NAMES[kind] + " 1 at 0 arm 1;" + NAMES[kind] + " 40 at 39 arm 9"), 2);
                int[] least = {kind, 1, 0, 1, 0};
                int[] greatest = {kind, 40, 39, 9, 0};
                for (int what = 0; what <= 4; what++) {
                    due("of(0, " + what + ")", x.of(0, what), least[what]);
                    due("of(1, " + what + ")", x.of(1, what), greatest[what]);
                }
            });
            test(33, NAMES[kind] + " without arm", x -> {
                due("items", Checks.court(x, NAMES[kind] + " 2 at 3"), 1);
                due("ARM", x.of(0, 3), 3);
            });
        }
        rocks("rock 0 of 1", 0, 0, 1);
        rocks("rock 39 of 9", 39, 39, 9);
        rocks("rock 0 to 0 of 9", 0, 0, 9);
        rocks("rock 39 to 39 of 1", 39, 39, 1);
        rocks("rock 0 to 39 of 9", 0, 39, 9);
        rocks("rock 1 to 38 of 1", 1, 38, 1);
        test(33, "frost 0 and 9", x -> {
            due("9", Checks.court(x, "frost 9"), 1);
            due("FROST", x.now(1), 9);
            due("0", Checks.court(x, "frost 0"), 1);
            due("FROST", x.now(1), 0);
        });
        test(33, "meets 0 and 20", x -> {
            due("20", Checks.court(x, "meets 20"), 1);
            due("MEETS", x.now(2), 20);
            due("0", Checks.court(x, "meets 0"), 1);
            due("MEETS", x.now(2), 0);
        });
    }

    private static void rocks(String text, int first, int last, int rock) {
        test(33, text, x -> {
            due("items", Checks.court(x, text), 1);
            for (int place = 0; place < 40; place++) {
                due("ROCK of " + place, x.placeOf(place, 0), place >= first && place <= last ? rock : 3);
            }
        });
    }

    /** Numbers just beyond: the FAULT is where they begin. */
    private static void promise33bounds() {
        for (String name : NAMES) {
            int n = name.length() + 1;
            fault(name + " 0 at 1", n);
            fault(name + " 41 at 1", n);
            fault(name + " 3 at 40", n + 5);
            fault(name + " 3 at 3 arm 0", n + 11);
            fault(name + " 3 at 3 arm 10", n + 11);
        }
        fault("rock 40 of 1", 5);
        fault("rock 40 to 40 of 1", 5);
        fault("rock 0 to 40 of 1", 10);
        fault("rock 1 to 0 of 1", 10);
        fault("rock 39 to 38 of 1", 11);
        fault("rock 0 of 0", 10);
        fault("rock 0 of 10", 10);
        fault("rock 0 to 1 of 0", 15);
        fault("rock 0 to 1 of 10", 15);
        fault("frost 10", 6);
        fault("meets 21", 6);
        fault("meets 9999", 6);
        fault("meets 10000", 6);
        fault("meets 4294967296", 6);
        fault("meets 4294967297", 6);
        fault("meets 18446744073709551616", 6);
        fault("meets 18446744073709551617", 6);
        fault("meets " + "9".repeat(114), 6);
        fault("frost -1", 6);
        fault("frost +1", 6);
        test(33, "a NUMBER with nulls ahead is what it is", x -> {
            due("items", Checks.court(x, "meets " + "0".repeat(112) + "20"), 1);
            due("MEETS", x.now(2), 20);
            due("items", Checks.court(x, "frost 00009"), 1);
            due("FROST", x.now(1), 9);
        });
    }

    /** A token that can't stand there, in each place of each item. */
    private static void promise33faults() {
        String[] heads = {"1", "at 1", "arm 1", "to 1", "of 1", "fin 1 at 1", "fines 1 at 1", "x", "#"};
        for (String head : heads) {
            fault(head, 0);
            fault("frost 1; " + head, 9);
        }
        for (String other : new String[] {"fine", "x", ";", "#", "arm"}) {
            fault("fine " + other + " 3 at 1", 5);
            fault("fine 3 " + other + " 1", 7);
            fault("fine 3 at " + other, 10);
            fault("fine 3 at 1 arm " + other, 16);
            fault("rock " + other + " of 1", 5);
            fault("rock 1 " + other + " 1", 7);
            fault("rock 1 to " + other + " of 1", 10);
            fault("rock 1 to 2 " + other + " 1", 12);
            fault("rock 1 of " + other, 10);
            fault("frost " + other, 6);
            fault("meets " + other, 6);
        }
        fault("fine 3 1", 7);
        fault("rock 1 1", 7);
        fault("rock 1 to 2 to 3 of 1", 12);
        fault("rock 1 of 2 to 3", 12);
        fault("fine 3 at 1 arm 3 arm 3", 18);
        fault("fine 3 at 1 1", 12);
        fault("fine 3 at 1 at 1", 12);
        fault("frost 1 frost 1", 8);
        fault("frost 1 1", 8);
        fault("frost 1;;frost 1", 8);
        fault(";frost 1", 0);
        fault("frost 1;frost 2;frost 10;#", 22);
        fault("rock 0 to 39 of 9;fine 3 at 4 arm 5;frost 9;meets 20;fine 3 at 4 arm 10", 69);
    }

    /** It ends too early, in each place of each item: how many bytes there are, blanks at the end, too. */
    private static void promise33endsTooEarly() {
        String[] items = {"fine 3 at 1 arm 3", "rock 1 to 2 of 3", "rock 1 of 3", "frost 3", "meets 3"};
        for (String item : items) {
            String[] tokens = item.split(" ");
            StringBuilder part = new StringBuilder();
            for (int i = 0; i < tokens.length - 1; i++) {
                part.append(i == 0 ? "" : " ").append(tokens[i]);
                if (part.toString().equals("fine 3 at 1")) {
                    continue;
                }
                fault(part.toString(), part.length());
                fault(part + "   ", part.length() + 3);
            }
            fault(item + ";", item.length() + 1);
            fault(item + "; ", item.length() + 2);
        }
    }

    private static void promise33tokens() {
        for (String text : new String[] {"hasty3at5arm7;rock1to2of3;frost4;meets5", "  hasty  3  at  5  arm  7  ;  rock 1 "
            + "to 2 of 3 ; frost 4 ; meets 5  "}) {
            test(33, "blanks may stand between, and needn't: " + text, x -> {
                due("items", Checks.court(x, text), 4);
                due("STEPS", x.of(0, 1), 3);
                due("PLACE", x.of(0, 2), 5);
                due("ARM", x.of(0, 3), 7);
                due("FROST", x.now(1), 4);
                due("MEETS", x.now(2), 5);
            });
        }
        fault("fro st 1", 0);
        fault("meets 1 0", 8);
        fault("frost1frost1", 6);
        fault("fine3at1arm", 11);
        fault("fine3atat", 5);
        fault("fine3a1", 5);
        fault("finefine3at1", 0);
        fault("rock1toof1", 5);
        fault("rock1to2of", 10);
        fault("Frost 1", 0);
        fault("fRost 1", 0);
        fault("frost 1:", 7);
    }

    /** A word that is another by one letter, by one too few, by one too many. */
    private static void promise33words() {
        String[] items = {"fine 3 at 1 arm 3", "shared 3 at 1", "alms 3 at 1", "hasty 3 at 1", "feigned 3 at 1",
            "saintly 3 at 1", "rock 1 to 2 of 3", "frost 3", "meets 3"};
        for (String item : items) {
            for (int i = 0; i < item.length(); i++) {
                if (Character.isLetter(item.charAt(i))) {
                    int word = item.lastIndexOf(' ', i) + 1;
                    fault(item.substring(0, i) + "q" + item.substring(i + 1), word);
                    fault(item.substring(0, i) + "q" + item.substring(i), word);
                    fault(item.substring(0, i + 1) + "q" + item.substring(i + 1), word);
                    fault(item.substring(0, i) + item.substring(i + 1), word);
                }
            }
        }
    }

    /** Each of 256 bytes, alone and behind an item. */
    private static void promise33bytes() {
        for (int i = 0; i < 256; i++) {
            int b = i;
            boolean letter = b >= 97 && b <= 122;
            boolean digit = b >= 48 && b <= 57;
            test(33, "byte " + b + " alone", x -> {
                x.feed(b, 1);
                due("its place, or the end", x.court(), b == 32 ? -2 : -1);
            });
            test(33, "byte " + b + " behind a word", x -> {
                Checks.feed(x, "frost");
                x.feed(b, 1);
                x.feed('1', 1);
                long digits = b - 48 == 0 ? 1 : -6;
                due("a longer word, a longer number, or not", x.court(), letter ? -1 : digit ? digits : b == 32 ? 1 : -6);
            });
            test(33, "byte " + b + " behind a number", x -> {
                Checks.feed(x, "frost 1");
                x.feed(b, 1);
                due("a longer number, the end, or its place", x.court(), digit ? -7 : b == 32 ? 1 : b == 59 ? -9 : -8);
                due("FROST", x.now(1), b == 32 ? 1 : 0);
            });
        }
    }

    private static void promise33tenFines() {
        test(33, "the tenth FINE", () -> fines(9), x -> {
            due("items", Checks.court(x, "saintly 1 at 1"), 1);
            due("FINES", x.count(0), 10);
            due("KIND", x.of(9, 0), 5);
        });
        test(33, "ten FINES in one TEXT", x -> {
            due("items", Checks.court(x, "fine1at1;".repeat(9) + "fine1at1"), 10);
            due("FINES", x.count(0), 10);
        });
        test(33, "eleven FINES in one TEXT: the name of the last", x -> {
            due("fault", Checks.court(x, "fine1at1;".repeat(10) + "fine1at1"), -91);
            due("FINES", x.count(0), 0);
        });
        for (String name : NAMES) {
            test(33, "an 11th, " + name, () -> fines(10), x -> {
                String was = Checks.seen(x);
                due("its own place", Checks.court(x, "frost 1; " + name + " 1 at 1"), -10);
                same("all is as it was", x, was);
                due("no finding", x.status(-1), 0);
            });
        }
        test(33, "an 11th whose number can't stand: its name is first", () -> fines(10), x ->
            due("its own place", Checks.court(x, "hasty 41 at 1"), -1));
        test(33, "an 11th that ends too early: its name is first", () -> fines(10), x ->
            due("its own place", Checks.court(x, " hasty"), -2));
        test(33, "a FAULT ahead of the 11th", () -> fines(10), x ->
            due("the first", Checks.court(x, "frost 10;hasty 1 at 1"), -7));
        test(33, "other items with ten FINES", () -> fines(10), x ->
            due("items", Checks.court(x, "frost 1;meets 1;rock 1 of 1"), 3));
        test(33, "the 10th and an 11th: the second name, and none comes", () -> fines(9), x -> {
            due("fault", Checks.court(x, "fine 1 at 1;alms 1 at 1"), -13);
            due("FINES", x.count(0), 9);
        });
    }

    private static StairFines fines(int n) {
        StairFines x = new StairFines();
        for (int fine = 0; fine < n; fine++) {
            x.fine(fine % 6, 1, fine);
        }
        return x;
    }

    private static void promise33oneHundredAndTwenty() {
        String most = "frost1;".repeat(16);
        test(33, "120 bytes, seventeen items", x -> {
            due("items", Checks.court(x, most + "frost  9"), 17);
            due("FROST", x.now(1), 9);
        });
        test(33, "120 bytes, all blanks: they are its end", x -> due("fault", Checks.court(x, " ".repeat(120)), -121));
        test(33, "120 bytes that end too early", x -> due("fault", Checks.court(x, most + "frost 1;"), -121));
        test(33, "120 bytes, a word at the end", x -> due("fault", Checks.court(x, most + "frostabc"), -113));
        test(33, "120 bytes, a number at the end", x -> due("fault", Checks.court(x, most + "frost 10"), -119));
        test(33, "120 bytes, a sign at the end", x -> due("fault", Checks.court(x, most + "frost 1#"), -120));
        test(33, "120 bytes, one word", x -> due("fault", Checks.court(x, "f".repeat(120)), -1));
        test(33, "120 bytes, one number", x -> due("fault", Checks.court(x, "9".repeat(120)), -1));
        test(33, "120 bytes, all signs", x -> due("fault", Checks.court(x, ";".repeat(120)), -1));
        test(33, "a shorter TEXT behind 120 bytes ends where it ends", x -> {
            Checks.court(x, most + "frost 10");
            due("fault", Checks.court(x, "frost1;"), -8);
            due("items", Checks.court(x, "frost1"), 1);
        });
    }

    /** A test of its own: THE TEXT has its first FAULT there, and nothing changes but that THE TAPE is empty. */
    private static void fault(String text, int place) {
        test(33, "the FAULT of \"" + text + "\"", Edges::rich, x -> {
            x.wipe();
            String was = Checks.seen(x);
            due("its place", Checks.court(x, text), -1 - place);
            same("all is as it was", x, was);
            due("no finding", x.status(-1), 0);
        });
    }
}
