/** What the tests share: counting wrong answers, and telling texts. */
final class Checks {
    static final long BEYOND = -1000000001L;
    static final long FULL = -1000000002L;
    static final long KIND = -1000000003L;
    static final long NONE = -1000000004L;
    static final long STATE = -1000000005L;
    static final long MISSING = -1000000006L;
    static final long SIZE = -1000000007L;

    private static int asked = 0;
    private static int wrong = 0;

    private Checks() {
    }

    static void due(String call, long got, long want) {
        asked++;
        if (got != want) {
            wrong++;
            System.out.println(call + " answered " + got + ", due is " + want);
        }
    }

    static int wrongSoFar() {
        return wrong;
    }

    static void end() {
        System.out.println(asked + " answers, " + wrong + " not as due");
        if (asked == 0 || wrong != 0) {
            System.exit(1);
        }
    }

    /** Feeds a text, four bytes at a time. */
    static void feed(StairFines x, String text) {
        for (int i = 0; i < text.length(); i += 4) {
            int n = Math.min(4, text.length() - i);
            int bytes = 0;
            for (int k = 0; k < n; k++) {
                bytes = bytes << 8 | text.charAt(i + k);
            }
            x.feed(bytes, n);
        }
    }

    static int court(StairFines x, String text) {
        feed(x, text);
        return x.court();
    }

    /** Years go until YEAR is that. */
    static void goTo(StairFines x, int year) {
        int now = x.now(0);
        while (now < year) {
            int n = Math.min(200, year - now);
            x.years(n);
            now += n;
        }
    }

    /** All that can be seen of the state without a finding, but for status() and sheets; some 250 calls at most. */
    static String seen(StairFines x) {
        StringBuilder s = new StringBuilder();
        for (int what = 0; what <= 4; what++) {
            s.append(x.now(what)).append(' ');
        }
        for (int what = 0; what <= 3; what++) {
            s.append(x.count(what)).append(' ');
        }
        long whole = x.whole();
        s.append(whole).append(' ').append(x.reach()).append('\n');
        for (int place = 0; place < 40; place++) {
            s.append(x.placeOf(place, 0)).append(' ');
            for (int what = 2; what <= 4 && (whole >> place & 1) == 1; what++) {
                s.append(x.placeOf(place, what)).append(' ');
            }
        }
        s.append('\n');
        int fines = x.count(0);
        for (int fine = 0; fine < fines; fine++) {
            for (int what = 0; what <= 7; what++) {
                s.append(x.of(fine, what)).append(' ');
            }
        }
        return s.toString();
    }
}
