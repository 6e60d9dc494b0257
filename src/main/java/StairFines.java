import java.util.Arrays;

/**
 * Fines that are paid in steps of a stair up to the pass.
 * What each call does is told by its promise in the document.
 */
public final class StairFines {
    private static final int BEYOND = 0;
    private static final int FULL = 1;
    private static final int KIND = 2;
    private static final int NONE = 3;
    private static final int STATE = 4;
    private static final int MISSING = 5;
    private static final int SIZE = 6;
    private static final int FINDINGS = 7;
    private static final int FIRST_FINDING = -1000000001;

    private static final int PLACES = 40;
    private static final long ALL_PLACES = (1L << PLACES) - 1;
    private static final int MOST_ROCK = 9;
    private static final int FIRST_ROCK = 3;
    private static final int MOST_FROST = 9;
    private static final int MOST_MEETS = 20;
    private static final int FIRST_MEETS = 4;
    private static final int LAST_YEAR = 9999;

    private static final int KINDS = 6;
    private static final int MOST_FINES = 10;
    private static final int MOST_STEPS = 40;
    private static final int MOST_ARM = 9;
    private static final int FIRST_ARM = 3;

    private static final int MOST_YEARS = 200;
    private static final int MOST_TRIED_YEARS = 100;
    private static final int MADE_HIGH = 10;
    private static final int MOST_ASKED_HIGH = 40;

    private static final int MOST_BYTES = 120;
    private static final int SHEETS = 4;
    private static final int MOST_NUMBERS = 40;

    private final Mountain mountain;
    /** Questions are tried out here, so that the mountain stays as it is and no call makes objects. */
    private final Mountain trial;
    private final Mountain kept;
    private boolean isKept;
    private final Tape tape;
    private final Sheet[] sheets;
    private final int[] findings;

    public StairFines() {
        Kind[] kinds = {new Kind(), new Shared(), new Alms(), new Hasty(), new Feigned(), new Saintly()};
        mountain = new Mountain(kinds);
        trial = new Mountain(kinds);
        kept = new Mountain(kinds);
        tape = new Tape(kinds);
        sheets = new Sheet[] {new Sheet(), new Sheet(), new Sheet(), new Sheet()};
        findings = new int[FINDINGS];
    }

    // ---- the mountain, fines

    public int rock(int place, int v) {
        if (!isPlace(place) || !isWithin(v, 1, MOST_ROCK)) {
            return found(BEYOND);
        }
        int was = mountain.rock[place];
        mountain.rock[place] = v;
        return was;
    }

    public int let(int what, int v) {
        if (what == 0 && isWithin(v, 0, MOST_FROST)) {
            int was = mountain.frost;
            mountain.frost = v;
            return was;
        }
        if (what == 1 && isWithin(v, 0, MOST_MEETS)) {
            int was = mountain.meets;
            mountain.meets = v;
            return was;
        }
        return found(BEYOND);
    }

    public int fine(int kind, int steps, int place) {
        if (!isKind(kind) || !isWithin(steps, 1, MOST_STEPS) || !isPlace(place)) {
            return found(BEYOND);
        }
        if (mountain.isFull()) {
            return found(FULL);
        }
        mountain.addFine(kind, steps, place, FIRST_ARM);
        return mountain.fines - 1;
    }

    public int of(int fine, int what) {
        if (!mountain.hasFine(fine)) {
            return found(BEYOND);
        }
        switch (what) {
            case 0: return mountain.kind[fine];
            case 1: return mountain.owes[fine];
            case 2: return mountain.at[fine];
            case 3: return mountain.arm[fine];
            case 4: return mountain.work[fine];
            case 5: return mountain.worksOf(fine);
            case 6: return mountain.highOf(fine, mountain.at[fine]);
            case 7: return mountain.cutBy(fine);
            default: return found(BEYOND);
        }
    }

    public int set(int fine, int what, int v) {
        if (!mountain.hasFine(fine)) {
            return found(BEYOND);
        }
        if (what == 1 && isWithin(v, 0, MOST_STEPS)) {
            int was = mountain.owes[fine];
            mountain.owes[fine] = v;
            return was;
        }
        if (what == 2 && isPlace(v)) {
            int was = mountain.at[fine];
            mountain.moveFine(fine, v);
            return was;
        }
        if (what == 3 && isWithin(v, 1, MOST_ARM)) {
            int was = mountain.arm[fine];
            mountain.arm[fine] = v;
            return was;
        }
        return found(BEYOND);
    }

    public int turn(int fine, int kind) {
        if (!mountain.hasFine(fine) || !isKind(kind)) {
            return found(BEYOND);
        }
        int was = mountain.kind[fine];
        mountain.kind[fine] = kind;
        return was;
    }

    public int as(int fine, int kind) {
        if (!mountain.hasFine(fine) || !isKind(kind)) {
            return found(BEYOND);
        }
        if (!isOfKind(mountain.kindOf(fine), kind)) {
            return found(KIND);
        }
        return mountain.owes[fine];
    }

    public int placeOf(int place, int what) {
        if (!isPlace(place) || !isWithin(what, 0, 4)) {
            return found(BEYOND);
        }
        if (what == 0) {
            return mountain.rock[place];
        }
        if (what == 1) {
            return mountain.isWhole(place) ? 1 : 0;
        }
        if (!mountain.isWhole(place)) {
            return found(STATE);
        }
        if (what == 2) {
            return mountain.high[place];
        }
        return what == 3 ? mountain.cutter[place] : mountain.cutIn[place];
    }

    public long whole() {
        return mountain.whole;
    }

    public int make(int place, boolean is, int fine) {
        if (!isPlace(place) || !mountain.hasFine(fine)) {
            return found(BEYOND);
        }
        if (mountain.isWhole(place) == is) {
            return 0;
        }
        if (is) {
            mountain.cut(place, MADE_HIGH, fine);
        } else {
            mountain.breakUp(place);
        }
        return 1;
    }

    public int reach() {
        return mountain.climb();
    }

    public long faults() {
        long faults = 0;
        for (int place = 1; place < PLACES; place++) {
            if (mountain.isPair(place) && !mountain.isMet(place, mountain.meets)) {
                faults |= 1L << place;
            }
        }
        return faults;
    }

    // ---- years

    public int years(int n) {
        int finding = againstYears(n, 1, MOST_YEARS);
        if (finding != 0) {
            return finding;
        }
        mountain.goYears(n);
        return mountain.wholePlaces();
    }

    public int seed(int v) {
        int was = mountain.z;
        mountain.z = v;
        return was;
    }

    public int now(int what) {
        switch (what) {
            case 0: return mountain.year;
            case 1: return mountain.frost;
            case 2: return mountain.meets;
            case 3: return mountain.wholePlaces();
            case 4: return mountain.owedByAll();
            default: return found(BEYOND);
        }
    }

    // ---- on

    public long on(int n) {
        int finding = againstYears(n, 0, MOST_YEARS);
        if (finding != 0) {
            return finding;
        }
        startTrial();
        trial.goYears(n);
        return trial.whole;
    }

    public int reachOn(int n) {
        int finding = againstYears(n, 0, MOST_YEARS);
        if (finding != 0) {
            return finding;
        }
        startTrial();
        trial.goYears(n);
        return trial.climb();
    }

    public int pass() {
        if (isTooLateFor(MOST_YEARS)) {
            return found(STATE);
        }
        startTrial();
        for (int year = 0; year <= MOST_YEARS; year++) {
            if (trial.climb() == PLACES) {
                return year;
            }
            trial.goYears(1);
        }
        return found(NONE);
    }

    public int paid(int fine) {
        if (!mountain.hasFine(fine)) {
            return found(BEYOND);
        }
        if (isTooLateFor(MOST_YEARS)) {
            return found(STATE);
        }
        startTrial();
        for (int year = 0; year <= MOST_YEARS; year++) {
            if (trial.owes[fine] == 0) {
                return year;
            }
            trial.goYears(1);
        }
        return found(NONE);
    }

    public int farthest(int n) {
        int finding = againstYears(n, 0, MOST_YEARS);
        if (finding != 0) {
            return finding;
        }
        startTrial();
        int farthest = trial.climb();
        for (int year = 1; year <= n; year++) {
            trial.goYears(1);
            farthest = Math.max(farthest, trial.climb());
        }
        return farthest;
    }

    // ---- where, what first, for which sin

    public int best(int fine, int n) {
        if (!mountain.hasFine(fine)) {
            return found(BEYOND);
        }
        int finding = againstYears(n, 1, MOST_TRIED_YEARS);
        if (finding != 0) {
            return finding;
        }
        int own = mountain.at[fine];
        int best = own;
        startTrial();
        trial.goYears(n);
        int greatest = trial.climb();
        for (int place = 0; place < PLACES; place++) {
            if (place == own) {
                continue;
            }
            startTrial();
            trial.moveFine(fine, place);
            trial.goYears(n);
            int reach = trial.climb();
            if (reach > greatest) {
                greatest = reach;
                best = place;
            }
        }
        return best;
    }

    public int kind(int fine, int n) {
        if (!mountain.hasFine(fine)) {
            return found(BEYOND);
        }
        int finding = againstYears(n, 1, MOST_TRIED_YEARS);
        if (finding != 0) {
            return finding;
        }
        int best = 0;
        int greatest = -1;
        for (int kind = 0; kind < KINDS; kind++) {
            startTrial();
            trial.kind[fine] = kind;
            trial.goYears(n);
            int reach = trial.climb();
            if (reach > greatest) {
                greatest = reach;
                best = kind;
            }
        }
        return best;
    }

    public int mend() {
        // Only the place at which one must stop can make one climb farther: the others leave that stop there.
        int stop = mountain.climb();
        if (mountain.fines == 0 || !isPlace(stop) || mountain.isWhole(stop)) {
            return found(NONE);
        }
        startTrial();
        trial.cut(stop, MADE_HIGH, 0);
        return trial.climb() > stop ? stop : found(NONE);
    }

    public int needed(int n) {
        int finding = againstYears(n, 1, MOST_TRIED_YEARS);
        if (finding != 0) {
            return finding;
        }
        startTrial();
        trial.goYears(n);
        int least = trial.climb();
        int needed = -1;
        for (int fine = 0; fine < mountain.fines; fine++) {
            startTrial();
            trial.owes[fine] = 0;
            trial.goYears(n);
            int reach = trial.climb();
            if (reach < least) {
                least = reach;
                needed = fine;
            }
        }
        return needed < 0 ? found(NONE) : needed;
    }

    public int steepest() {
        int steepest = 0;
        int most = 0;
        for (int place = 1; place < PLACES; place++) {
            if (!mountain.isPair(place)) {
                continue;
            }
            int above = mountain.high[place] - mountain.high[place - 1];
            if (steepest == 0 || above > most) {
                most = above;
                steepest = place;
            }
        }
        return steepest == 0 ? found(NONE) : steepest;
    }

    public int whose(int place, int high) {
        if (!isPlace(place) || !isWithin(high, 0, MOST_ASKED_HIGH)) {
            return found(BEYOND);
        }
        int whose = 0;
        for (int fine = 0; fine < mountain.fines; fine++) {
            if (mountain.highOf(fine, place) == high) {
                whose |= 1 << fine;
            }
        }
        return whose;
    }

    public int bears(int n) {
        int finding = againstYears(n, 1, MOST_YEARS);
        if (finding != 0) {
            return finding;
        }
        for (int frost = MOST_FROST; frost >= 0; frost--) {
            startTrial();
            trial.frost = frost;
            trial.goYears(n);
            if (trial.climb() == PLACES) {
                return frost;
            }
        }
        return found(NONE);
    }

    public int meetsFor(int v) {
        if (!isWithin(v, 0, PLACES)) {
            return found(BEYOND);
        }
        for (int meets = 0; meets <= MOST_MEETS; meets++) {
            if (mountain.climbWith(meets) >= v) {
                return meets;
            }
        }
        return found(NONE);
    }

    public int alone(int fine) {
        if (!mountain.hasFine(fine)) {
            return found(BEYOND);
        }
        // Each kind works 1 at least with an arm of 1; the divisor is held to that.
        int works = Math.max(1, mountain.worksOf(fine));
        int years = 0;
        for (int place = 0; place < PLACES; place++) {
            if (!mountain.isWhole(place)) {
                years += (mountain.rock[place] + works - 1) / works;
            }
        }
        return years;
    }

    // ---- the text

    public int feed(int bytes, int n) {
        if (!isWithin(n, 1, 4)) {
            return found(BEYOND);
        }
        if (tape.length + n > MOST_BYTES) {
            return found(FULL);
        }
        for (int i = n - 1; i >= 0; i--) {
            tape.append((bytes >>> (8 * i)) & 255);
        }
        return tape.length;
    }

    public int wipe() {
        int had = tape.length;
        tape.length = 0;
        return had;
    }

    public int court() {
        startTrial();
        int items = tape.tell(trial);
        if (items >= 0) {
            mountain.become(trial);
        }
        tape.length = 0;
        return items;
    }

    // ---- sheets

    public int sheet(int s, int bits, int n) {
        if (!isSheet(s) || (bits != 0 && bits != 8 && bits != 16 && bits != 64)) {
            return found(BEYOND);
        }
        if (n < 0) {
            return found(SIZE);
        }
        if (n > MOST_NUMBERS) {
            return found(BEYOND);
        }
        sheets[s].layOut(bits, n);
        return sheets[s].length;
    }

    public long write(int s, int i, long v) {
        if (!isSheet(s)) {
            return found(BEYOND);
        }
        Sheet sheet = sheets[s];
        if (sheet.isMissing()) {
            return found(MISSING);
        }
        if (!sheet.holds(i, 1)) {
            return found(BEYOND);
        }
        long was = sheet.numbers[i];
        sheet.put(i, v);
        return was;
    }

    public int copy(int s, int from, int t, int to, int n) {
        if (!isSheet(s) || !isSheet(t)) {
            return found(BEYOND);
        }
        Sheet source = sheets[s];
        Sheet target = sheets[t];
        if (source.isMissing() || target.isMissing()) {
            return found(MISSING);
        }
        if (source.bits != target.bits) {
            return found(KIND);
        }
        if (!source.holds(from, n) || !target.holds(to, n)) {
            return found(BEYOND);
        }
        System.arraycopy(source.numbers, from, target.numbers, to, n);
        return n;
    }

    public int lays(int s) {
        if (!isSheet(s)) {
            return found(BEYOND);
        }
        Sheet sheet = sheets[s];
        if (sheet.isMissing()) {
            return found(MISSING);
        }
        int came = 0;
        for (int place = 0; place < PLACES && sheet.holds(place, 1); place++) {
            long v = sheet.numbers[place];
            if (v >= 1 && v <= MOST_ROCK) {
                mountain.rock[place] = (int) v;
                came++;
            }
        }
        return came;
    }

    public int stair(int s, int n) {
        if (!isSheet(s)) {
            return found(BEYOND);
        }
        Sheet sheet = sheets[s];
        if (sheet.isMissing()) {
            return found(MISSING);
        }
        int finding = againstYears(n, 0, MOST_YEARS);
        if (finding != 0) {
            return finding;
        }
        startTrial();
        trial.goYears(n);
        int came = 0;
        for (int place = 0; place < PLACES && sheet.holds(place, 1); place++) {
            sheet.put(place, trial.isWhole(place) ? trial.high[place] : 0);
            came++;
        }
        return came;
    }

    public int read(int s) {
        if (!isSheet(s)) {
            return found(BEYOND);
        }
        Sheet sheet = sheets[s];
        if (sheet.isMissing()) {
            return found(MISSING);
        }
        if (isTooLateFor(MOST_NUMBERS)) {
            return found(STATE);
        }
        startTrial();
        for (int i = 0; i < MOST_NUMBERS && sheet.holds(i, 1); i++) {
            if (sheet.numbers[i] != trial.climb()) {
                return 1 + i;
            }
            trial.goYears(1);
        }
        return 0;
    }

    // ---- images

    public int image() {
        kept.become(mountain);
        isKept = true;
        return 1;
    }

    public int undo() {
        if (!isKept) {
            return found(NONE);
        }
        mountain.become(kept);
        return mountain.fines;
    }

    public int tear() {
        int was = isKept ? 1 : 0;
        isKept = false;
        return was;
    }

    public int count(int what) {
        switch (what) {
            case 0: return mountain.fines;
            case 1: return tape.length;
            case 2: return mountain.highOfAll();
            case 3: return mountain.z;
            default: return found(BEYOND);
        }
    }

    public int status(int which) {
        if (!isWithin(which, -1, FINDINGS - 1)) {
            return found(BEYOND);
        }
        if (which >= 0) {
            return findings[which];
        }
        int all = 0;
        for (int i = 0; i < FINDINGS; i++) {
            all += findings[i];
        }
        return all;
    }

    // ---- what the calls share

    private int found(int finding) {
        if (isWithin(finding, 0, FINDINGS - 1)) {
            findings[finding]++;
        }
        return FIRST_FINDING - finding;
    }

    private boolean isTooLateFor(int years) {
        return mountain.year + years > LAST_YEAR;
    }

    /** The finding that stands against going on for n years; 0 if there is none. */
    private int againstYears(int n, int least, int most) {
        if (!isWithin(n, least, most)) {
            return found(BEYOND);
        }
        return isTooLateFor(n) ? found(STATE) : 0;
    }

    private void startTrial() {
        trial.become(mountain);
    }

    private static boolean isWithin(int v, int least, int most) {
        return v >= least && v <= most;
    }

    private static boolean isPlace(int place) {
        return place >= 0 && place < PLACES;
    }

    private static boolean isKind(int kind) {
        return kind >= 0 && kind < KINDS;
    }

    private static boolean isSheet(int s) {
        return s >= 0 && s < SHEETS;
    }

    private static boolean isOfKind(Kind it, int kind) {
        switch (kind) {
            case 0: return true;
            case 1: return it instanceof Shared;
            case 2: return it instanceof Alms;
            case 3: return it instanceof Hasty;
            case 4: return it instanceof Feigned;
            case 5: return it instanceof Saintly;
            default: return false;
        }
    }

    /** What fines of a kind do; this one is of kind FINE, and the others are under it. */
    private static class Kind {
        String name() {
            return "fine";
        }

        int works(int arm, int unmade) {
            return arm;
        }

        int cutsHigh(int rock) {
            return 8 + rock;
        }

        int counts() {
            return 1;
        }
    }

    private static final class Shared extends Kind {
        String name() {
            return "shared";
        }

        int works(int arm, int unmade) {
            return 2 * super.works(arm, unmade);
        }
    }

    private static class Alms extends Kind {
        String name() {
            return "alms";
        }

        int cutsHigh(int rock) {
            return super.cutsHigh(rock) - 2;
        }
    }

    private static class Hasty extends Kind {
        String name() {
            return "hasty";
        }

        int works(int arm, int unmade) {
            return super.works(arm, unmade) + 2;
        }

        int cutsHigh(int rock) {
            return super.cutsHigh(rock) + 5;
        }
    }

    private static final class Feigned extends Hasty {
        String name() {
            return "feigned";
        }

        int works(int arm, int unmade) {
            return super.works(arm, unmade) / 2;
        }

        int cutsHigh(int rock) {
            return super.cutsHigh(rock) + 3;
        }

        int counts() {
            return 2;
        }
    }

    private static final class Saintly extends Alms {
        String name() {
            return "saintly";
        }

        int works(int arm, int unmade) {
            return super.works(arm, unmade) + unmade / 10;
        }

        int cutsHigh(int rock) {
            return rock > 5 ? 7 : super.cutsHigh(rock);
        }
    }

    /** All that section 1 of the document tells, but for the tape. */
    private static final class Mountain {
        private final Kind[] kinds;
        private final int[] rock = new int[PLACES];
        private final int[] high = new int[PLACES];
        private final int[] cutter = new int[PLACES];
        private final int[] cutIn = new int[PLACES];
        private long whole;
        private int year;
        private int frost;
        private int meets = FIRST_MEETS;
        private int z = 1;
        private int fines;
        private final int[] kind = new int[MOST_FINES];
        private final int[] owes = new int[MOST_FINES];
        private final int[] at = new int[MOST_FINES];
        private final int[] arm = new int[MOST_FINES];
        private final int[] work = new int[MOST_FINES];

        Mountain(Kind[] kinds) {
            this.kinds = kinds;
            Arrays.fill(rock, FIRST_ROCK);
        }

        void become(Mountain other) {
            System.arraycopy(other.rock, 0, rock, 0, PLACES);
            System.arraycopy(other.high, 0, high, 0, PLACES);
            System.arraycopy(other.cutter, 0, cutter, 0, PLACES);
            System.arraycopy(other.cutIn, 0, cutIn, 0, PLACES);
            whole = other.whole;
            year = other.year;
            frost = other.frost;
            meets = other.meets;
            z = other.z;
            fines = other.fines;
            System.arraycopy(other.kind, 0, kind, 0, MOST_FINES);
            System.arraycopy(other.owes, 0, owes, 0, MOST_FINES);
            System.arraycopy(other.at, 0, at, 0, MOST_FINES);
            System.arraycopy(other.arm, 0, arm, 0, MOST_FINES);
            System.arraycopy(other.work, 0, work, 0, MOST_FINES);
        }

        boolean isFull() {
            return fines >= MOST_FINES;
        }

        boolean hasFine(int fine) {
            return fine >= 0 && fine < fines && fine < MOST_FINES;
        }

        void addFine(int itsKind, int steps, int place, int itsArm) {
            if (isFull()) {
                return;
            }
            kind[fines] = itsKind;
            owes[fines] = steps;
            at[fines] = place;
            arm[fines] = itsArm;
            work[fines] = 0;
            fines++;
        }

        void moveFine(int fine, int place) {
            at[fine] = place;
            work[fine] = 0;
        }

        Kind kindOf(int fine) {
            int number = kind[fine];
            return isKind(number) ? kinds[number] : kinds[0];
        }

        int worksOf(int fine) {
            return kindOf(fine).works(arm[fine], PLACES - wholePlaces());
        }

        int highOf(int fine, int place) {
            return isPlace(place) ? kindOf(fine).cutsHigh(rock[place]) : 0;
        }

        int cutBy(int fine) {
            int places = 0;
            for (int place = 0; place < PLACES; place++) {
                if (isWhole(place) && cutter[place] == fine) {
                    places++;
                }
            }
            return places;
        }

        int owedByAll() {
            int owed = 0;
            for (int fine = 0; fine < fines; fine++) {
                owed += owes[fine];
            }
            return owed;
        }

        int highOfAll() {
            int all = 0;
            for (int place = 0; place < PLACES; place++) {
                if (isWhole(place)) {
                    all += high[place];
                }
            }
            return all;
        }

        int wholePlaces() {
            return Long.bitCount(whole);
        }

        boolean isWhole(int place) {
            return isPlace(place) && (whole >>> place & 1) != 0;
        }

        void cut(int place, int itsHigh, int fine) {
            whole |= 1L << place;
            high[place] = itsHigh;
            cutter[place] = fine;
            cutIn[place] = year;
        }

        void breakUp(int place) {
            whole &= ~(1L << place);
        }

        /** Whether a place and the one ahead of it are both whole. */
        boolean isPair(int place) {
            return isWhole(place) && isWhole(place - 1);
        }

        /** Whether both steps of a pair meet. */
        boolean isMet(int place, int inches) {
            return Math.abs(high[place] - high[place - 1]) <= inches;
        }

        int climb() {
            return climbWith(meets);
        }

        int climbWith(int inches) {
            if (!isWhole(0)) {
                return 0;
            }
            int reached = 1;
            while (reached < PLACES && isWhole(reached) && isMet(reached, inches)) {
                reached++;
            }
            return reached;
        }

        void goYears(int n) {
            for (int gone = 0; gone < n; gone++) {
                if (isAtRest()) {
                    year += n - gone;
                    return;
                }
                goYear();
            }
        }

        /** Years at rest are alike, and some questions try thousands of them: they are passed at once. */
        private boolean isAtRest() {
            boolean works = whole != ALL_PLACES && owedByAll() > 0;
            boolean freezes = whole != 0 && frost > 0;
            return !works && !freezes;
        }

        private void goYear() {
            for (int fine = 0; fine < fines; fine++) {
                if (owes[fine] > 0 && whole != ALL_PLACES) {
                    goOn(fine);
                    workOn(fine, at[fine]);
                }
            }
            if (frost > 0) {
                freeze();
            }
            year++;
        }

        private void goOn(int fine) {
            for (int i = 0; i < PLACES && isWhole(at[fine]); i++) {
                moveFine(fine, at[fine] == PLACES - 1 ? 0 : at[fine] + 1);
            }
        }

        private void workOn(int fine, int place) {
            Kind its = kindOf(fine);
            work[fine] += its.works(arm[fine], PLACES - wholePlaces());
            if (isPlace(place) && work[fine] >= rock[place]) {
                cut(place, its.cutsHigh(rock[place]), fine);
                owes[fine] = Math.max(0, owes[fine] - its.counts());
                work[fine] = 0;
            }
        }

        private void freeze() {
            for (int place = 0; place < PLACES; place++) {
                if (isWhole(place) && draw() < frost) {
                    breakUp(place);
                }
            }
        }

        private int draw() {
            z = z * 1103515245 + 12345;
            return (z >>> 8) % 10;
        }
    }

    /** The bytes of a text, and how the text of a court is told from them. */
    private static final class Tape {
        private static final int END = 0;
        private static final int WORD = 1;
        private static final int NUMBER = 2;
        private static final int SIGN = 3;
        private static final int OTHER = 4;
        /** Above all that may be; longer numbers are held there, so that they can't go round. */
        private static final int TOO_GREAT = 10000;

        private final Kind[] kinds;
        private final int[] bytes = new int[MOST_BYTES];
        private int length;
        private int token;
        private int start;
        private int behind;
        private int number;
        /** The number that take() took latest. */
        private int taken;

        Tape(Kind[] kinds) {
            this.kinds = kinds;
        }

        void append(int b) {
            if (length < MOST_BYTES) {
                bytes[length] = b;
                length++;
            }
        }

        /** The items come to a mountain: how many, or -1 less the place of the fault (then only some came). */
        int tell(Mountain to) {
            behind = 0;
            advance();
            for (int items = 1; items <= MOST_BYTES; items++) {
                if (!item(to)) {
                    return -1 - start;
                }
                if (token == END) {
                    return items;
                }
                if (token != SIGN) {
                    return -1 - start;
                }
                advance();
            }
            return -1 - start;
        }

        /** Each of these stops at the token that can't stand there, with false. */
        private boolean item(Mountain to) {
            for (int kind = 0; kind < KINDS; kind++) {
                if (isWord(kinds[kind].name())) {
                    return fineItem(to, kind);
                }
            }
            if (takeWord("rock")) {
                return rockItem(to);
            }
            if (takeWord("frost")) {
                if (!take(0, MOST_FROST)) {
                    return false;
                }
                to.frost = taken;
                return true;
            }
            if (takeWord("meets")) {
                if (!take(0, MOST_MEETS)) {
                    return false;
                }
                to.meets = taken;
                return true;
            }
            return false;
        }

        private boolean fineItem(Mountain to, int kind) {
            if (to.isFull()) {
                return false;
            }
            advance();
            if (!take(1, MOST_STEPS)) {
                return false;
            }
            int steps = taken;
            if (!takeWord("at") || !take(0, PLACES - 1)) {
                return false;
            }
            int place = taken;
            int arm = FIRST_ARM;
            if (takeWord("arm")) {
                if (!take(1, MOST_ARM)) {
                    return false;
                }
                arm = taken;
            }
            to.addFine(kind, steps, place, arm);
            return true;
        }

        private boolean rockItem(Mountain to) {
            if (!take(0, PLACES - 1)) {
                return false;
            }
            int first = taken;
            int last = first;
            if (takeWord("to")) {
                if (!take(first, PLACES - 1)) {
                    return false;
                }
                last = taken;
            }
            if (!takeWord("of") || !take(1, MOST_ROCK)) {
                return false;
            }
            for (int place = first; place <= last && place < PLACES; place++) {
                to.rock[place] = taken;
            }
            return true;
        }

        private boolean take(int least, int most) {
            if (token != NUMBER || !isWithin(number, least, most)) {
                return false;
            }
            taken = number;
            advance();
            return true;
        }

        private boolean takeWord(String word) {
            if (!isWord(word)) {
                return false;
            }
            advance();
            return true;
        }

        private boolean isWord(String word) {
            if (token != WORD || behind - start != word.length()) {
                return false;
            }
            for (int i = 0; i < word.length() && start + i < length; i++) {
                if (bytes[start + i] != word.charAt(i)) {
                    return false;
                }
            }
            return true;
        }

        /** Goes to the next token; behind the last one its start is how many bytes there are. */
        private void advance() {
            while (behind < length && bytes[behind] == ' ') {
                behind++;
            }
            start = behind;
            if (start >= length) {
                token = END;
                return;
            }
            int first = bytes[start];
            behind++;
            if (isLetter(first)) {
                token = WORD;
                while (behind < length && isLetter(bytes[behind])) {
                    behind++;
                }
            } else if (isDigit(first)) {
                token = NUMBER;
                number = first - '0';
                while (behind < length && isDigit(bytes[behind])) {
                    number = Math.min(TOO_GREAT, number * 10 + bytes[behind] - '0');
                    behind++;
                }
            } else {
                token = first == ';' ? SIGN : OTHER;
            }
        }

        private static boolean isLetter(int b) {
            return b >= 'a' && b <= 'z';
        }

        private static boolean isDigit(int b) {
            return b >= '0' && b <= '9';
        }
    }

    /** A row of numbers; of no bits while it is missing. */
    private static final class Sheet {
        private final long[] numbers = new long[MOST_NUMBERS];
        private int bits;
        private int length;

        boolean isMissing() {
            return bits == 0;
        }

        void layOut(int itsBits, int n) {
            bits = itsBits;
            length = itsBits == 0 ? 0 : n;
            Arrays.fill(numbers, 0L);
        }

        boolean holds(int from, int n) {
            return from >= 0 && n >= 0 && n <= length && from <= length - n;
        }

        void put(int i, long v) {
            if (holds(i, 1)) {
                numbers[i] = lowest(v);
            }
        }

        private long lowest(long v) {
            if (bits == 8) {
                return (byte) v;
            }
            return bits == 16 ? (short) v : v;
        }
    }
}
