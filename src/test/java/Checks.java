/** What the tests share: counting wrong answers, and telling texts. */
final class Checks {
    static final long BEYOND = -1000000001L;
    static final long FULL = -1000000002L;
    static final long KIND = -1000000003L;
    static final long NONE = -1000000004L;
    static final long STATE = -1000000005L;
    static final long MISSING = -1000000006L;
    static final long SIZE = -1000000007L;

    private static int asked = 0;
    private static int wrong = 0;

    private Checks() {
    }

    static void due(String call, long got, long want) {
        asked++;
        if (got != want) {
            wrong++;
            System.out.println(call + " answered " + got + ", due is " + want);
        }
    }

    static int wrongSoFar() {
        return wrong;
    }

    static void end() {
        System.out.println(asked + " answers, " + wrong + " not as due");
        if (asked == 0 || wrong != 0) {
            System.exit(1);
        }
    }

    /** Feeds a text, four bytes at a time. */
    static void feed(StairFines x, String text) {
        for (int i = 0; i < text.length(); i += 4) {
            int n = Math.min(4, text.length() - i);
            int bytes = 0;
            for (int k = 0; k < n; k++) {
                bytes = bytes << 8 | text.charAt(i + k);
            }
            x.feed(bytes, n);
        }
    }

    static int court(StairFines x, String text) {
        feed(x, text);
        return x.court();
    }

    /** Years go until YEAR is that. */
    static void goTo(StairFines x, int year) {
        while (x.now(0) < year) {
            x.years(Math.min(200, year - x.now(0)));
        }
    }

    /** All that can be seen of the state without a finding, but for status() and sheets. */
    static String seen(StairFines x) {
        StringBuilder s = new StringBuilder();
        for (int what = 0; what <= 4; what++) {
            s.append(x.now(what)).append(' ');
        }
        for (int what = 0; what <= 3; what++) {
            s.append(x.count(what)).append(' ');
        }
        s.append(x.whole()).append(' ').append(x.reach()).append('\n');
        for (int place = 0; place < 40; place++) {
            int most = x.placeOf(place, 1) == 1 ? 4 : 1;
            for (int what = 0; what <= most; what++) {
                s.append(x.placeOf(place, what)).append(' ');
            }
        }
        s.append('\n');
        for (int fine = 0; fine < x.count(0); fine++) {
            for (int what = 0; what <= 7; what++) {
                s.append(x.of(fine, what)).append(' ');
            }
        }
        return s.toString();
    }
}
