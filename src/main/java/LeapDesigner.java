/** A desk for those who make calendars: the answers that DOC.md promises, one method a promise. */
public final class LeapDesigner {
    public static final int NONE = -1;
    public static final long NOTHING = -1000000000000000L;

    private static final int REFUSED = -2;
    private static final int UNFIT = -3;

    // What date() and its like tell by 4.
    private static final int WEEKDAY = 4;

    private static final int SLOTS = 6;
    private static final int UNDO_DEPTH = 12;
    private static final int TAPE_BYTES = 800;
    private static final int FED_BYTES = 20;
    private static final int LAST_YEAR = 100000;
    // A power of two; it and its halves together reach over all YEARS that can be.
    private static final int WIDEST_STEP = 131072;
    // Beyond any drift, in whatever part of a day it is told.
    private static final long FAR = 1L << 62;
    private static final int LONGEST_WALK = 20000;
    private static final int MOST_YEARS = 5000;
    private static final int MOST_BOUND = 9999;
    private static final int MOST_SHIFT = 1000000;
    private static final int MOST_PATTERN = 62;
    private static final int MOST_NTH = 200;
    private static final int MOST_NEXT = 1000;
    private static final int MOST_BUSY_DAY = 99;
    private static final int LONGEST_EVEN = 1000;
    private static final int LONGEST_LADDER_STEP = 9999;
    private static final int LONGEST_ROW = 400;
    private static final int MOST_TRUE_DAYS = 999;
    private static final int MOST_BELOW = 1000000;
    private static final int MOST_BEST = 100000;
    private static final int MOST_MOON_ABOVE = 10000000;
    private static final int MOST_MOON_BELOW = 100000;

    private final byte[] tape = new byte[TAPE_BYTES];
    private int tapeLength = 0;
    private int latestFault = 0;
    private int latestPlace = NONE;

    private final Design[] designs = new Design[SLOTS];
    private final int[] changedSlots = new int[UNDO_DEPTH];
    private final Design[] changedFrom = new Design[UNDO_DEPTH];
    private int changesEnd = 0;
    private int changes = 0;

    private final StringBuilder written = new StringBuilder();
    private Joint joint = null;

    // Made by the first call that needs them and used again: a fresh object stays small.
    private int[] borders = null;
    private long[] highs = null;
    private long[] lows = null;

    public LeapDesigner() {
    }

    // ---- the tape

    public int feed(int a, int b, int c, int d, int e) {
        if (tapeLength + FED_BYTES > TAPE_BYTES) {
            return NONE;
        }
        putFourBytes(a);
        putFourBytes(b);
        putFourBytes(c);
        putFourBytes(d);
        putFourBytes(e);
        return tapeLength;
    }

    private void putFourBytes(int four) {
        for (int low = 24; low >= 0 && tapeLength < TAPE_BYTES; low -= 8) {
            tape[tapeLength] = (byte) (four >> low);
            tapeLength++;
        }
    }

    public boolean end(int n) {
        if (n < 0 || n > tapeLength) {
            return false;
        }
        tapeLength = n;
        return true;
    }

    // ---- designs

    public int design(int s) {
        if (!isSlot(s)) {
            return REFUSED;
        }
        Scanner scanner = new Scanner(tape, tapeLength);
        Design told = new Reader(scanner).readDesign();
        tapeLength = 0;
        latestFault = scanner.fault;
        latestPlace = scanner.place;
        if (told == null) {
            return NONE;
        }
        change(s, told);
        return told.law.cycle();
    }

    public int fault(int what) {
        switch (what) {
            case 0:
                return latestFault;
            case 1:
                return latestPlace;
            default:
                return NONE;
        }
    }

    public int has(int s, int what) {
        Design design = designAt(s);
        if (design == null) {
            return NONE;
        }
        switch (what) {
            case 0:
                return design.frame.year;
            case 1:
                return design.frame.extra;
            case 2:
                return design.law.sort();
            case 3:
                return design.frame.months.length;
            case 4:
                return design.frame.leapMonth;
            case 5:
                return design.frame.week;
            case 6:
                return design.frame.firstWeekday;
            case 7:
                return design.law.cycle();
            case 8:
                return design.law.leapsInCycle();
            default:
                return evenNumber(design.law, what);
        }
    }

    private static int evenNumber(Law law, int what) {
        if (!(law instanceof EvenLaw spread)) {
            return NONE;
        }
        switch (what) {
            case 9:
                return spread.k;
            case 10:
                return spread.n;
            case 11:
                return spread.s;
            default:
                return NONE;
        }
    }

    public int count(int what) {
        switch (what) {
            case 0:
                return designsThere();
            case 1:
                return changes;
            default:
                return NONE;
        }
    }

    private int designsThere() {
        int there = 0;
        for (int i = 0; i < SLOTS; i++) {
            if (designs[i] != null) {
                there++;
            }
        }
        return there;
    }

    public int month(int s, int m, boolean leap) {
        Design design = designAt(s);
        if (design == null || !design.frame.hasMonth(m)) {
            return NONE;
        }
        return design.frame.monthDays(m, leap);
    }

    public long mean(int s, boolean isTrue, int part) {
        Design design = designAt(s);
        if (design == null) {
            return NOTHING;
        }
        Fraction length = isTrue ? design.trueYear.length() : design.meanYear();
        return length.tellPart(part);
    }

    public int copy(int s, int other) {
        Design design = designAt(other);
        if (!isSlot(s) || design == null || s == other) {
            return REFUSED;
        }
        change(s, design);
        return 1;
    }

    public int drop(int s) {
        if (designAt(s) == null) {
            return REFUSED;
        }
        change(s, null);
        return designsThere();
    }

    public int shift(int s, int shift) {
        Design design = designAt(s);
        if (design == null) {
            return REFUSED;
        }
        if (!(design.law instanceof EvenLaw spread)) {
            return UNFIT;
        }
        if (shift < 0 || shift >= spread.n) {
            return REFUSED;
        }
        change(s, design.withLaw(new EvenLaw(spread.k, spread.n, shift)));
        return spread.s;
    }

    public int truth(int s, int days, int p, int q) {
        Design design = designAt(s);
        boolean can = days >= 0 && days <= MOST_TRUE_DAYS && q >= 1 && q <= MOST_BELOW && p >= 0 && p < q;
        if (design == null || !can) {
            return REFUSED;
        }
        change(s, design.withTrueYear(design.trueYear.withLength(days, p, q)));
        return 1;
    }

    public int undo() {
        if (changes == 0) {
            return UNFIT;
        }
        changesEnd = (changesEnd + UNDO_DEPTH - 1) % UNDO_DEPTH;
        changes--;
        designs[changedSlots[changesEnd]] = changedFrom[changesEnd];
        changedFrom[changesEnd] = null;
        return changes;
    }

    /** The ring forgets the oldest change by itself when a thirteenth comes. */
    private void change(int s, Design to) {
        changedSlots[changesEnd] = s;
        changedFrom[changesEnd] = designs[s];
        changesEnd = (changesEnd + 1) % UNDO_DEPTH;
        changes = Math.min(changes + 1, UNDO_DEPTH);
        designs[s] = to;
    }

    public int write(int s) {
        Design design = designAt(s);
        if (design == null) {
            return NONE;
        }
        written.setLength(0);
        design.tell(written);
        return written.length();
    }

    public int octet(int i) {
        if (i < 0 || i >= written.length()) {
            return NONE;
        }
        return written.charAt(i);
    }

    // ---- years, days

    public int leap(int s, int year) {
        Design design = designAt(s);
        if (design == null || !isYear(year)) {
            return NONE;
        }
        return design.law.isLeap(year) ? 1 : 0;
    }

    public int leaps(int s, int from, int to) {
        Design design = designAt(s);
        if (design == null || !isYear(from) || !isYear(to)) {
            return NONE;
        }
        return to <= from ? 0 : design.law.leapsBefore(to) - design.law.leapsBefore(from);
    }

    public long start(int s, int year) {
        Design design = designAt(s);
        if (design == null || !isYear(year)) {
            return NOTHING;
        }
        return design.startOf(year);
    }

    public long number(int s, int year, int day) {
        Design design = designAt(s);
        if (design == null || !isYear(year) || day < 0 || day >= design.daysOf(year)) {
            return NOTHING;
        }
        return design.startOf(year) + day;
    }

    public long date(int s, long number, int what) {
        Design design = designAt(s);
        return design == null ? NOTHING : design.tellDate(number, what);
    }

    public long dated(int s, int year, int month, int day) {
        Design design = designAt(s);
        return design == null ? NOTHING : design.numberOf(year, month, day);
    }

    public long later(int s, int year, int month, int day, int years) {
        Design design = designAt(s);
        if (design == null || design.numberOf(year, month, day) == NOTHING) {
            return NOTHING;
        }
        long thatYear = (long) year + years;
        if (thatYear < -LAST_YEAR || thatYear > LAST_YEAR) {
            return NOTHING;
        }
        int target = (int) thatYear;
        int lastDay = design.frame.monthDays(month, design.law.isLeap(target)) - 1;
        return design.numberOf(target, month, Math.min(day, lastDay));
    }

    public long taken(int s, long number, int other, int shift, int what) {
        Design design = designAt(s);
        Design target = designAt(other);
        if (design == null || target == null || !design.holds(number)) {
            return NOTHING;
        }
        if (shift < -MOST_SHIFT || shift > MOST_SHIFT) {
            return NOTHING;
        }
        return target.tellDate(number + shift, what);
    }

    // ---- drift

    public long drift(int s, int year, int part) {
        Design design = designAt(s);
        if (design == null || !isYear(year)) {
            return NOTHING;
        }
        return design.driftOf(year).tellPart(part);
    }

    public long extreme(int s, int from, int to, boolean most, int what) {
        Design design = designAt(s);
        if (design == null || !isWalk(from, to)) {
            return NOTHING;
        }
        int year = design.extremeYear(from, to, most);
        return what == 2 ? year : design.driftOf(year).tellPart(what);
    }

    public int passes(int s, int bound) {
        Design design = designAt(s);
        if (design == null || bound < 1 || bound > MOST_BOUND) {
            return NONE;
        }
        return design.passingYear(bound);
    }

    public int keeps(int s) {
        Design design = designAt(s);
        if (design == null || !(design.law instanceof EvenLaw spread)) {
            return NONE;
        }
        return keepingShift(design.withLaw(new EvenLaw(spread.k, spread.n, 0)), spread.k, spread.n);
    }

    /**
     * A shift by K times j makes YEAR 0 of what was YEAR j, so that all shifts are told by stretches of
     * N YEARS of the one unshifted design; shifts between multiples of the common divisor change nothing.
     */
    private int keepingShift(Design unshifted, int k, int n) {
        if (n > LONGEST_EVEN) {
            return NONE;
        }
        fillHeads(unshifted, n);
        int stretches = n / (int) Fraction.commonDivisor(k, n);
        long begin = unshifted.trueYear.beginUnits();
        long high = unshifted.slipUnits(n - 1);
        long low = high;
        long least = FAR;
        int kept = 0;
        for (int j = n - 1; j >= 0; j--) {
            long here = unshifted.slipUnits(j);
            high = Math.max(high, here);
            low = Math.min(low, here);
            if (j < stretches) {
                long above = Math.max(high, highs[j]) - here - begin;
                long below = Math.min(low, lows[j]) - here - begin;
                long farthest = Math.max(Math.abs(above), Math.abs(below));
                int shift = k * j % n;
                if (farthest < least || farthest == least && shift < kept) {
                    least = farthest;
                    kept = shift;
                }
            }
        }
        return kept;
    }

    /** Highs and lows at j: those of YEARS n .. n + j - 1, by which a stretch from j on goes past n. */
    private void fillHeads(Design unshifted, int n) {
        if (highs == null || lows == null) {
            highs = new long[LONGEST_EVEN];
            lows = new long[LONGEST_EVEN];
        }
        long high = -FAR;
        long low = FAR;
        for (int j = 0; j < n; j++) {
            highs[j] = high;
            lows[j] = low;
            long ahead = unshifted.slipUnits(n + j);
            high = Math.max(high, ahead);
            low = Math.min(low, ahead);
        }
    }

    public int dawns(int s, int from, int to, int what) {
        Design design = designAt(s);
        if (design == null || !isWalk(from, to) || what < 0 || what > 2) {
            return NONE;
        }
        return design.tellDawns(from, to, what);
    }

    public long steady(int s, int from, int to, int bound, int what) {
        Design design = designAt(s);
        if (design == null || !isWalk(from, to) || bound < 0 || bound > MOST_BOUND || what < 0 || what > 1) {
            return NOTHING;
        }
        return design.tellSteady(from, to, bound, what);
    }

    // ---- gaps, weekdays

    public int gap(int s, int what) {
        Design design = designAt(s);
        if (design == null || what < 0 || what > 2) {
            return NONE;
        }
        return tellGap(design.law, what);
    }

    private static int tellGap(Law law, int what) {
        int first = firstLeap(law);
        if (first == NONE) {
            return 0;
        }
        int latest = first;
        int least = law.cycle();
        int greatest = 0;
        int times = 0;
        int end = first + law.cycle();
        for (int year = first + 1; year <= end; year++) {
            if (law.isLeap(year)) {
                int wide = year - latest;
                latest = year;
                least = Math.min(least, wide);
                if (wide > greatest) {
                    greatest = wide;
                    times = 0;
                }
                if (wide == greatest) {
                    times++;
                }
            }
        }
        if (what == 0) {
            return least;
        }
        return what == 1 ? greatest : times;
    }

    private static int firstLeap(Law law) {
        int cycle = law.cycle();
        for (int year = 0; year < cycle; year++) {
            if (law.isLeap(year)) {
                return year;
            }
        }
        return NONE;
    }

    public int even(int s) {
        Design design = designAt(s);
        if (design == null) {
            return NONE;
        }
        return tellGap(design.law, 1) - tellGap(design.law, 0) <= 1 ? 1 : 0;
    }

    public int weeks(int s) {
        Design design = designAt(s);
        if (design == null) {
            return NONE;
        }
        int cycle = design.law.cycle();
        int week = design.frame.week;
        int whole = (int) Fraction.commonDivisor(design.startOf(cycle), week);
        return cycle * (week / whole);
    }

    public int falls(int s, int from, int n, int month, int day, int weekday) {
        Design design = designAt(s);
        if (design == null || !isStretch(from, n)) {
            return NONE;
        }
        if (!design.frame.hasLongestDay(month, day) || !design.frame.hasWeekday(weekday)) {
            return NONE;
        }
        return design.timesOnWeekday(from, n, month, day, weekday);
    }

    public long nth(int s, int year, int month, int weekday, int k, boolean last) {
        Design design = designAt(s);
        if (design == null || k < 1 || k > MOST_NTH || !design.frame.hasWeekday(weekday)) {
            return NOTHING;
        }
        long first = design.numberOf(year, month, 0);
        if (first == NOTHING) {
            return NOTHING;
        }
        Frame frame = design.frame;
        int days = frame.monthDays(month, design.law.isLeap(year));
        int weeksOn = (k - 1) * frame.week;
        int day = last
                ? days - 1 - Math.floorMod(frame.weekdayOf(first + days - 1) - weekday, frame.week) - weeksOn
                : Math.floorMod(weekday - frame.weekdayOf(first), frame.week) + weeksOn;
        return day < 0 || day >= days ? NOTHING : first + day;
    }

    public long next(int s, int year, int k) {
        Design design = designAt(s);
        if (design == null || !isYear(year) || k == 0 || k < -MOST_NEXT || k > MOST_NEXT) {
            return NOTHING;
        }
        Law law = design.law;
        int wanted = k > 0 ? law.leapsBefore(year + 1) + k : law.leapsBefore(year) + k + 1;
        if (wanted <= law.leapsBefore(-LAST_YEAR) || wanted > law.leapsBefore(LAST_YEAR + 1)) {
            return NOTHING;
        }
        return yearCompleting(law, wanted);
    }

    /** The last YEAR ahead of which fewer LEAP YEARS than wanted have gone by is the wanted one itself. */
    private static int yearCompleting(Law law, int wanted) {
        int year = -LAST_YEAR;
        for (int step = WIDEST_STEP; step > 0; step /= 2) {
            if (year + step <= LAST_YEAR && law.leapsBefore(year + step) < wanted) {
                year += step;
            }
        }
        return year;
    }

    public long pattern(int s, int from, int n) {
        Design design = designAt(s);
        if (design == null || n > MOST_PATTERN || !isStretch(from, n)) {
            return NOTHING;
        }
        long bits = 0;
        for (int i = 0; i < n; i++) {
            if (design.law.isLeap(from + i)) {
                bits |= 1L << i;
            }
        }
        return bits;
    }

    public long busiest(int s, int from, int n, int day, int weekday, int what) {
        Design design = designAt(s);
        if (design == null || !isStretch(from, n) || !design.frame.hasWeekday(weekday)) {
            return NOTHING;
        }
        if (day < 0 || day > MOST_BUSY_DAY || what < 0 || what > 1) {
            return NOTHING;
        }
        int busy = NONE;
        int most = 0;
        for (int month = 0; month < design.frame.months.length; month++) {
            int times = design.timesOnWeekday(from, n, month, day, weekday);
            if (times > most) {
                most = times;
                busy = month;
            }
        }
        return what == 0 ? busy : most;
    }

    // ---- moons

    public long moons(int s, int year, int p, int q, int what) {
        Design design = designAt(s);
        if (design == null || !isYear(year) || !isMoon(p, q)) {
            return NOTHING;
        }
        long start = design.startOf(year);
        long first = moonFrom(start, p, q);
        long end = moonFrom(design.startOf(year + 1), p, q);
        switch (what) {
            case 0:
                return end - first;
            case 1:
                return end == first ? NONE : moonDay(first, p, q) - start;
            case 2:
                return end == first ? NONE : moonDay(end - 1, p, q) - start;
            default:
                return NOTHING;
        }
    }

    public long age(int s, long number, int p, int q) {
        Design design = designAt(s);
        if (design == null || !isMoon(p, q) || !design.holds(number)) {
            return NOTHING;
        }
        return number - moonDay(moonFrom(number + 1, p, q) - 1, p, q);
    }

    public long meets(int s, int from, int n, int month, int day, int p, int q) {
        Design design = designAt(s);
        if (design == null || !isStretch(from, n) || !isMoon(p, q) || !design.frame.hasLongestDay(month, day)) {
            return NOTHING;
        }
        for (int i = 0; i < n; i++) {
            long number = design.numberOf(from + i, month, day);
            if (number != NOTHING && moonDay(moonFrom(number, p, q), p, q) == number) {
                return from + i;
            }
        }
        return NOTHING;
    }

    /** The first new moon that begins on a day or behind it. */
    private static long moonFrom(long number, int p, int q) {
        return -Math.floorDiv(-number * q, (long) p);
    }

    private static long moonDay(long moon, int p, int q) {
        return Math.floorDiv(moon * p, (long) q);
    }

    // ---- joined

    public int join(int s, long number, int other, int year, int month, int day) {
        Design design = designAt(s);
        Design target = designAt(other);
        if (design == null || target == null || !design.holds(number)) {
            return REFUSED;
        }
        long same = target.numberOf(year, month, day);
        if (same == NOTHING) {
            return REFUSED;
        }
        joint = new Joint(design, target, number, same - number);
        return 1;
    }

    public long joined(long number, int what) {
        return joint == null ? NOTHING : joint.tellDate(number, what);
    }

    public int often(int year, int month, int day) {
        if (joint == null) {
            return NONE;
        }
        int early = joint.earlyDay(year, month, day) == NOTHING ? 0 : 1;
        int late = joint.lateDay(year, month, day) == NOTHING ? 0 : 1;
        return early + late;
    }

    public long span(int year, int month, int day, int year2, int month2, int day2) {
        if (joint == null) {
            return NOTHING;
        }
        long from = joint.firstDay(year, month, day);
        long to = joint.firstDay(year2, month2, day2);
        return from == NOTHING || to == NOTHING ? NOTHING : to - from;
    }

    // ---- compared

    public int like(int s, int other) {
        Design design = designAt(s);
        Design target = designAt(other);
        if (design == null || target == null) {
            return NONE;
        }
        int cycle = design.law.cycle();
        if (cycle != target.law.cycle() || cycle > LONGEST_LADDER_STEP) {
            return NONE;
        }
        fillBorders(design.law, cycle);
        return placeInRound(design.law, target.law, cycle);
    }

    /** Cycles may be thousands of YEARS, so that trying every shift would be dear: a cycle is looked up as a word. */
    private void fillBorders(Law law, int cycle) {
        if (borders == null) {
            borders = new int[LONGEST_LADDER_STEP];
        }
        int matched = 0;
        borders[0] = 0;
        for (int i = 1; i < cycle; i++) {
            matched = goOn(law, matched, law.isLeap(i));
            borders[i] = matched;
        }
    }

    private int placeInRound(Law law, Law round, int cycle) {
        int matched = 0;
        for (int i = 0; i < 2 * cycle - 1; i++) {
            matched = goOn(law, matched, round.isLeap(i));
            if (matched == cycle) {
                return i - cycle + 1;
            }
        }
        return NONE;
    }

    /** How much of the cycle's beginning stands at the end of what was read, once a YEAR more is read. */
    private int goOn(Law law, int matched, boolean leap) {
        int length = matched;
        for (int tries = 0; tries < matched && length > 0 && law.isLeap(length) != leap; tries++) {
            length = borders[length - 1];
        }
        return law.isLeap(length) == leap ? length + 1 : length;
    }

    public long within(int s, int years, int bound, int what) {
        Design design = designAt(s);
        if (design == null || years < 1 || years > LAST_YEAR || bound < 1 || bound > MOST_BOUND) {
            return NOTHING;
        }
        if (what < 0 || what > 1) {
            return NOTHING;
        }
        long aim = design.aboveYear();
        long unit = (long) design.trueYear.q * design.frame.extra;
        for (int n = 1; n <= LONGEST_EVEN; n++) {
            long k = nearestK(aim * n, unit, n);
            long off = Math.abs(k * unit - aim * n);
            if (off * years <= (long) bound * n * design.trueYear.q) {
                return what == 0 ? n : k;
            }
        }
        return NOTHING;
    }

    private static long nearestK(long aim, long unit, int n) {
        if (unit < 1) {
            return 0;
        }
        long lower = Math.floorDiv(aim, unit);
        long nearest = aim - lower * unit <= (lower + 1) * unit - aim ? lower : lower + 1;
        return Math.max(0, Math.min(n, nearest));
    }

    public int asRow(int s) {
        Design design = designAt(s);
        if (design == null) {
            return REFUSED;
        }
        int cycle = design.law.cycle();
        if (cycle > LONGEST_ROW) {
            return UNFIT;
        }
        int[] before = new int[cycle + 1];
        for (int year = 0; year <= cycle; year++) {
            before[year] = design.law.leapsBefore(year);
        }
        change(s, design.withLaw(new RowLaw(before)));
        return cycle;
    }

    public long apart(int s, int other, int from, int to, int what) {
        Design design = designAt(s);
        Design target = designAt(other);
        if (design == null || target == null || !isWalk(from, to)) {
            return NOTHING;
        }
        switch (what) {
            case 0:
            case 1:
                return lonelyLeaps(design.law, target.law, from, to, what);
            case 2:
            case 3:
                return farthestStarts(design, target, from, to, what);
            default:
                return NOTHING;
        }
    }

    private static long lonelyLeaps(Law law, Law other, int from, int to, int what) {
        int first = NONE;
        int times = 0;
        for (int year = from; year <= to; year++) {
            if (law.isLeap(year) != other.isLeap(year)) {
                first = times == 0 ? year : first;
                times++;
            }
        }
        return what == 0 ? times : first;
    }

    private static long farthestStarts(Design design, Design other, int from, int to, int what) {
        long start = design.startOf(from);
        long otherStart = other.startOf(from);
        long farthest = -1;
        int first = from;
        for (int year = from; year <= to; year++) {
            long distance = Math.abs(start - otherStart);
            if (distance > farthest) {
                farthest = distance;
                first = year;
            }
            start += design.daysOf(year);
            otherStart += other.daysOf(year);
        }
        return what == 2 ? farthest : first;
    }

    // ---- fractions

    public long best(int p, int q, int n, int part) {
        if (!isShare(p, q) || n < 1 || n > MOST_BEST) {
            return NOTHING;
        }
        return Fraction.nearest(p, q, n).tellPart(part);
    }

    public long term(int p, int q, int k) {
        return isShare(p, q) ? Fraction.tellTerm(p, q, k) : NOTHING;
    }

    public long convergent(int p, int q, int k, int part) {
        if (!isShare(p, q) || k < 0) {
            return NOTHING;
        }
        Fraction told = Fraction.ofTerms(p, q, k);
        return told == null ? NOTHING : told.tellPart(part);
    }

    public long suggests(int s, int n, int what) {
        Design design = designAt(s);
        if (design == null || n < 1 || n > LONGEST_EVEN) {
            return NOTHING;
        }
        int extra = design.frame.extra;
        Fraction aim = Fraction.leastTerms(design.aboveYear(), (long) design.trueYear.q * extra);
        if (aim.above < 0 || aim.above > aim.below || aim.below > MOST_BELOW) {
            return NOTHING;
        }
        Fraction near = Fraction.nearest(aim.above, aim.below, n);
        if (what != 2) {
            return near.tellPart(what);
        }
        long off = Math.abs(near.above * aim.below - aim.above * near.below) * extra;
        return off == 0 ? 0 : near.below * aim.below / off;
    }

    // ---- what can be

    private static boolean isSlot(int s) {
        return s >= 0 && s < SLOTS;
    }

    private Design designAt(int s) {
        return isSlot(s) ? designs[s] : null;
    }

    private static boolean isYear(int year) {
        return year >= -LAST_YEAR && year <= LAST_YEAR;
    }

    private static boolean isWalk(int from, int to) {
        return isYear(from) && isYear(to) && from <= to && to - from <= LONGEST_WALK;
    }

    private static boolean isStretch(int from, int n) {
        return isYear(from) && n >= 1 && n <= MOST_YEARS && from + n - 1 <= LAST_YEAR;
    }

    private static boolean isMoon(int p, int q) {
        boolean can = p >= 1 && p <= MOST_MOON_ABOVE && q >= 1 && q <= MOST_MOON_BELOW;
        return can && p >= 2 * q && p <= 1000 * q;
    }

    private static boolean isShare(int p, int q) {
        return q >= 1 && q <= MOST_BELOW && p >= 0 && p <= q;
    }

    /** What no change but a new text touches: the year's days, its months, its week. */
    private static final class Frame {
        final int year;
        final int extra;
        final int[] months;
        final int leapMonth;
        final int week;
        final int firstWeekday;

        Frame(int year, int extra, int[] months, int leapMonth, int week, int firstWeekday) {
            this.year = year;
            this.extra = extra;
            this.months = months;
            this.leapMonth = leapMonth;
            this.week = Math.max(1, week);
            this.firstWeekday = firstWeekday;
        }

        int yearDays(boolean isLeap) {
            return isLeap ? year + extra : year;
        }

        boolean hasMonth(int m) {
            return m >= 0 && m < months.length;
        }

        int monthDays(int m, boolean isLeap) {
            if (!hasMonth(m)) {
                return 0;
            }
            return isLeap && m == leapMonth ? months[m] + extra : months[m];
        }

        int monthOffset(int m, boolean isLeap) {
            int days = 0;
            for (int i = 0; i < m; i++) {
                days += monthDays(i, isLeap);
            }
            return days;
        }

        int monthOf(int day, boolean isLeap) {
            int left = day;
            int m = 0;
            while (m < months.length - 1 && left >= monthDays(m, isLeap)) {
                left -= monthDays(m, isLeap);
                m++;
            }
            return m;
        }

        boolean hasLongestDay(int m, int day) {
            return hasMonth(m) && day >= 0 && day < monthDays(m, true);
        }

        boolean hasWeekday(int weekday) {
            return weekday >= 0 && weekday < week;
        }

        int weekdayOf(long number) {
            return (int) Math.floorMod(number + firstWeekday, (long) week);
        }

        void tellYear(StringBuilder out) {
            out.append("year ").append(year).append(";extra ").append(extra).append(';');
        }

        void tellMonthsAndWeek(StringBuilder out) {
            out.append("months");
            for (int m = 0; m < months.length; m++) {
                out.append(' ').append(months[m]);
            }
            out.append(" leap ").append(leapMonth);
            out.append(";week ").append(week).append(" at ").append(firstWeekday).append(';');
        }
    }

    /** No leap years, unless one of the laws below tells some. */
    private static class Law {
        int sort() {
            return 0;
        }

        int cycle() {
            return 1;
        }

        boolean isLeap(int year) {
            return false;
        }

        /** LEAP YEARS from 0 on ahead of a year; ahead of 0 those from it on, told below 0. */
        int leapsBefore(int year) {
            return 0;
        }

        void tell(StringBuilder out) {
        }

        final int leapsInCycle() {
            return leapsBefore(cycle());
        }
    }

    private static final class EvenLaw extends Law {
        final int k;
        final int n;
        final int s;

        EvenLaw(int k, int n, int s) {
            this.k = k;
            this.n = Math.max(1, n);
            this.s = s;
        }

        int sort() {
            return 1;
        }

        int cycle() {
            return n;
        }

        boolean isLeap(int year) {
            return Math.floorMod(k * year + s, n) < k;
        }

        /** A YEAR is LEAP just when K times it and S, by N, cut, is one more than a YEAR ago. */
        int leapsBefore(int year) {
            return Math.floorDiv(k * (year - 1) + s, n) - Math.floorDiv(s - k, n);
        }

        void tell(StringBuilder out) {
            out.append("even ").append(k).append(" of ").append(n).append(" shift ").append(s).append(';');
        }
    }

    private static final class LadderLaw extends Law {
        private final int[] steps;

        /** The steps are 1 or more, each a multiple of the one ahead. */
        LadderLaw(int[] steps) {
            this.steps = steps;
        }

        int sort() {
            return 2;
        }

        int cycle() {
            return steps.length == 0 ? 1 : steps[steps.length - 1];
        }

        boolean isLeap(int year) {
            int dividing = 0;
            while (dividing < steps.length && steps[dividing] > 0 && year % steps[dividing] == 0) {
                dividing++;
            }
            return dividing % 2 == 1;
        }

        int leapsBefore(int year) {
            int leaps = 0;
            for (int i = 0; i < steps.length; i++) {
                int multiples = steps[i] > 0 ? -Math.floorDiv(-year, steps[i]) : 0;
                leaps += i % 2 == 0 ? multiples : -multiples;
            }
            return leaps;
        }

        void tell(StringBuilder out) {
            for (int i = 0; i < steps.length; i++) {
                if (i == 0) {
                    out.append("every ");
                } else {
                    out.append(i % 2 == 1 ? " not " : " but ");
                }
                out.append(steps[i]);
            }
            out.append(';');
        }
    }

    private static final class RowLaw extends Law {
        /** At i: how many of the YEARS 0 .. i - 1 are LEAP; it has one number more than the row YEARS. */
        private final int[] before;
        private final int n;

        RowLaw(int[] before) {
            this.before = before;
            this.n = before.length - 1;
        }

        int sort() {
            return 3;
        }

        int cycle() {
            return n;
        }

        boolean isLeap(int year) {
            if (n < 1) {
                return false;
            }
            int place = Math.floorMod(year, n);
            return before[place + 1] > before[place];
        }

        int leapsBefore(int year) {
            if (n < 1) {
                return 0;
            }
            return Math.floorDiv(year, n) * before[n] + before[Math.floorMod(year, n)];
        }

        void tell(StringBuilder out) {
            out.append("row ").append(n);
            for (int year = 0; year < n; year++) {
                if (isLeap(year)) {
                    out.append(' ').append(year);
                }
            }
            out.append(';');
        }
    }

    /** A UNIT is the part of a day in which the true year and its beginning are both whole numbers. */
    private static final class TrueYear {
        final int days;
        final int p;
        final int q;
        final int beginP;
        final int beginQ;

        TrueYear(int days, int p, int q, int beginP, int beginQ) {
            this.days = days;
            this.p = p;
            this.q = Math.max(1, q);
            this.beginP = beginP;
            this.beginQ = Math.max(1, beginQ);
        }

        TrueYear withLength(int newDays, int newP, int newQ) {
            return new TrueYear(newDays, newP, newQ, beginP, beginQ);
        }

        TrueYear withBegin(int newP, int newQ) {
            return new TrueYear(days, p, q, newP, newQ);
        }

        Fraction length() {
            return Fraction.leastTerms((long) days * q + p, q);
        }

        long unitsOfDay() {
            return (long) q * beginQ;
        }

        long unitsOfYear() {
            return ((long) days * q + p) * beginQ;
        }

        long beginUnits() {
            return (long) beginP * q;
        }

        void tell(StringBuilder out) {
            out.append("true ").append(days).append(" and ").append(p).append(" of ").append(q);
            out.append(";begins ").append(beginP).append(" of ").append(beginQ).append(';');
        }
    }

    /** A design never changes: a change puts another one in its place, so that undo and joints keep theirs. */
    private static final class Design {
        final Frame frame;
        final Law law;
        final TrueYear trueYear;

        Design(Frame frame, Law law, TrueYear trueYear) {
            this.frame = frame;
            this.law = law;
            this.trueYear = trueYear;
        }

        Design withLaw(Law other) {
            return new Design(frame, other, trueYear);
        }

        Design withTrueYear(TrueYear other) {
            return new Design(frame, law, other);
        }

        void tell(StringBuilder out) {
            frame.tellYear(out);
            law.tell(out);
            frame.tellMonthsAndWeek(out);
            trueYear.tell(out);
        }

        Fraction meanYear() {
            int cycle = law.cycle();
            return Fraction.leastTerms(startOf(cycle), cycle);
        }

        /** The true year less a common one, times Q. */
        long aboveYear() {
            return (long) (trueYear.days - frame.year) * trueYear.q + trueYear.p;
        }

        int daysOf(int year) {
            return frame.yearDays(law.isLeap(year));
        }

        long startOf(int year) {
            return (long) year * frame.year + (long) law.leapsBefore(year) * frame.extra;
        }

        boolean holds(long number) {
            return number >= startOf(-LAST_YEAR) && number < startOf(LAST_YEAR + 1);
        }

        /** The YEAR of a day that the design holds. */
        int yearOf(long number) {
            int year = -LAST_YEAR;
            for (int step = WIDEST_STEP; step > 0; step /= 2) {
                if (year + step <= LAST_YEAR && startOf(year + step) <= number) {
                    year += step;
                }
            }
            return year;
        }

        long numberOf(int year, int month, int day) {
            if (!isYear(year) || !frame.hasMonth(month) || day < 0) {
                return NOTHING;
            }
            boolean isLeap = law.isLeap(year);
            if (day >= frame.monthDays(month, isLeap)) {
                return NOTHING;
            }
            return startOf(year) + frame.monthOffset(month, isLeap) + day;
        }

        long tellDate(long number, int what) {
            if (!holds(number)) {
                return NOTHING;
            }
            int year = yearOf(number);
            boolean isLeap = law.isLeap(year);
            int day = (int) (number - startOf(year));
            int month = frame.monthOf(day, isLeap);
            switch (what) {
                case 0:
                    return year;
                case 1:
                    return day;
                case 2:
                    return month;
                case 3:
                    return day - frame.monthOffset(month, isLeap);
                case WEEKDAY:
                    return frame.weekdayOf(number);
                default:
                    return NOTHING;
            }
        }

        /** START of a YEAR less so many true years, in UNITS. */
        long slipUnits(int year) {
            return startOf(year) * trueYear.unitsOfDay() - year * trueYear.unitsOfYear();
        }

        long driftUnits(int year) {
            return slipUnits(year) - trueYear.beginUnits();
        }

        Fraction driftOf(int year) {
            return Fraction.leastTerms(driftUnits(year), trueYear.unitsOfDay());
        }

        /** What a YEAR adds to the drift of the one behind it, in UNITS. */
        long driftStep(boolean isLeap) {
            return frame.yearDays(isLeap) * trueYear.unitsOfDay() - trueYear.unitsOfYear();
        }

        int extremeYear(int from, int to, boolean most) {
            long common = driftStep(false);
            long leaping = driftStep(true);
            long here = driftUnits(from);
            long farthest = here;
            int found = from;
            for (int year = from; year <= to; year++) {
                if (most ? here > farthest : here < farthest) {
                    farthest = here;
                    found = year;
                }
                here += law.isLeap(year) ? leaping : common;
            }
            return found;
        }

        int passingYear(int bound) {
            long common = driftStep(false);
            long leaping = driftStep(true);
            long most = bound * trueYear.unitsOfDay();
            long slip = 0;
            for (int year = 0; year <= LONGEST_WALK; year++) {
                if (Math.abs(slip) > most) {
                    return year;
                }
                slip += law.isLeap(year) ? leaping : common;
            }
            return NONE;
        }

        long tellSteady(int from, int to, int bound, int what) {
            long common = driftStep(false);
            long leaping = driftStep(true);
            long most = bound * trueYear.unitsOfDay();
            long here = driftUnits(from);
            int length = 0;
            int longest = 0;
            int first = NONE;
            for (int year = from; year <= to; year++) {
                length = Math.abs(here) <= most ? length + 1 : 0;
                if (length > longest) {
                    longest = length;
                    first = year - length + 1;
                }
                here += law.isLeap(year) ? leaping : common;
            }
            return what == 0 ? longest : first;
        }

        /** The day in which a true year begins. */
        long dawnOf(int year) {
            return Math.floorDiv(year * trueYear.unitsOfYear() + trueYear.beginUnits(), trueYear.unitsOfDay());
        }

        int tellDawns(int from, int to, int what) {
            if (!holds(dawnOf(from)) || !holds(dawnOf(to))) {
                return NONE;
            }
            int holder = yearOf(dawnOf(from));
            long start = startOf(holder);
            int days = daysOf(holder);
            int least = frame.yearDays(true);
            int greatest = 0;
            int strangers = 0;
            for (int year = from; year <= to; year++) {
                long dawn = dawnOf(year);
                while (holder < LAST_YEAR && dawn - start >= days) {
                    start += days;
                    holder++;
                    days = daysOf(holder);
                }
                int day = (int) (dawn - start);
                least = Math.min(least, day);
                greatest = Math.max(greatest, day);
                strangers += holder == year ? 0 : 1;
            }
            if (what == 0) {
                return least;
            }
            return what == 1 ? greatest : strangers;
        }

        int timesOnWeekday(int from, int n, int month, int day, int weekday) {
            int offset = frame.monthOffset(month, false) + day;
            int leapOffset = frame.monthOffset(month, true) + day;
            boolean there = day < frame.monthDays(month, false);
            boolean leapThere = day < frame.monthDays(month, true);
            long start = startOf(from);
            int times = 0;
            for (int i = 0; i < n; i++) {
                boolean isLeap = law.isLeap(from + i);
                if (isLeap ? leapThere : there) {
                    long number = start + (isLeap ? leapOffset : offset);
                    times += frame.weekdayOf(number) == weekday ? 1 : 0;
                }
                start += frame.yearDays(isLeap);
            }
            return times;
        }
    }

    /**
     * Two designs, the second from the seam on; by its own numbers it is that much ahead of the first's.
     * A day must be one of both from the seam on: its number is the first's, its date the second's.
     */
    private static final class Joint {
        private final Design first;
        private final Design second;
        private final long seam;
        private final long ahead;

        Joint(Design first, Design second, long seam, long ahead) {
            this.first = first;
            this.second = second;
            this.seam = seam;
            this.ahead = ahead;
        }

        long tellDate(long number, int what) {
            if (!first.holds(number)) {
                return NOTHING;
            }
            if (number < seam) {
                return first.tellDate(number, what);
            }
            long told = second.tellDate(number + ahead, what);
            return told != NOTHING && what == WEEKDAY ? first.tellDate(number, what) : told;
        }

        long earlyDay(int year, int month, int day) {
            long number = first.numberOf(year, month, day);
            return number != NOTHING && number < seam ? number : NOTHING;
        }

        long lateDay(int year, int month, int day) {
            long told = second.numberOf(year, month, day);
            if (told == NOTHING) {
                return NOTHING;
            }
            long number = told - ahead;
            return number >= seam && first.holds(number) ? number : NOTHING;
        }

        long firstDay(int year, int month, int day) {
            long early = earlyDay(year, month, day);
            return early == NOTHING ? lateDay(year, month, day) : early;
        }
    }

    private static final class Fraction {
        /** Far more than Euclid's steps for any two longs. */
        private static final int MOST_STEPS = 200;

        final long above;
        final long below;

        private Fraction(long above, long below) {
            this.above = above;
            this.below = below;
        }

        long tellPart(int part) {
            switch (part) {
                case 0:
                    return above;
                case 1:
                    return below;
                default:
                    return NOTHING;
            }
        }

        /** 1 or more, whatever the numbers are. */
        static long commonDivisor(long a, long b) {
            long greater = Math.abs(a);
            long lesser = Math.abs(b);
            for (int i = 0; i < MOST_STEPS && lesser > 0; i++) {
                long rest = greater % lesser;
                greater = lesser;
                lesser = rest;
            }
            return Math.max(1, greater);
        }

        static Fraction leastTerms(long above, long below) {
            long divisor = commonDivisor(above, below);
            return new Fraction(above / divisor, below / divisor);
        }

        static long tellTerm(long p, long q, int k) {
            long above = p;
            long below = q;
            int terms = 0;
            while (terms < MOST_STEPS && below > 0) {
                if (terms == k) {
                    return above / below;
                }
                long rest = above % below;
                above = below;
                below = rest;
                terms++;
            }
            return k == NONE ? terms : NOTHING;
        }

        /** What comes of TERMS 0 .. k; null when there are not so many. */
        static Fraction ofTerms(long p, long q, int k) {
            long above = p;
            long below = q;
            Fraction earlier = new Fraction(0, 1);
            Fraction latest = new Fraction(1, 0);
            for (int i = 0; i < MOST_STEPS && below > 0; i++) {
                Fraction told = earlier.plusTimes(latest, above / below);
                if (i == k) {
                    return told;
                }
                earlier = latest;
                latest = told;
                long rest = above % below;
                above = below;
                below = rest;
            }
            return null;
        }

        /** Nearest to p by q is the last convergent that n allows, or the last fraction on the way to the next. */
        static Fraction nearest(long p, long q, long n) {
            long above = p;
            long below = q;
            Fraction earlier = new Fraction(0, 1);
            Fraction latest = new Fraction(1, 0);
            for (int i = 0; i < MOST_STEPS && below > 0; i++) {
                Fraction told = earlier.plusTimes(latest, above / below);
                if (told.below > n) {
                    Fraction between = earlier.plusTimes(latest, (n - earlier.below) / Math.max(1, latest.below));
                    return between.isNearer(latest, p, q) ? between : latest;
                }
                earlier = latest;
                latest = told;
                long rest = above % below;
                above = below;
                below = rest;
            }
            return latest;
        }

        private Fraction plusTimes(Fraction other, long times) {
            return new Fraction(above + times * other.above, below + times * other.below);
        }

        private boolean isNearer(Fraction other, long p, long q) {
            long off = Math.abs(above * q - p * below);
            long otherOff = Math.abs(other.above * q - p * other.below);
            return off * other.below < otherOff * below;
        }
    }

    /** Words, numbers and semicolons of a text; the first fault stops it, and no later one counts. */
    private static final class Scanner {
        static final int SYNTAX = 1;
        static final int NUMBER_CANT_BE = 2;
        static final int TOLD_ALREADY = 3;
        static final int TOO_MANY = 4;
        static final int MONTHS_UNEQUAL = 5;

        static final int STRAY = 0;
        static final int BLANK = 1;
        static final int WORD = 2;
        static final int NUMBER = 3;
        static final int SEMICOLON = 4;
        static final int END = 5;

        private static final int MOST_DIGITS = 7;

        final int length;
        int kind = STRAY;
        int from = 0;
        int fault = 0;
        int place = NONE;
        private final byte[] text;
        private int to = 0;

        Scanner(byte[] text, int length) {
            this.text = text;
            this.length = Math.min(length, text.length);
        }

        void fail(int which, int where) {
            if (fault == 0) {
                fault = which;
                place = where;
            }
            kind = STRAY;
        }

        void advance() {
            if (fault != 0) {
                return;
            }
            boolean needsBlank = kind == WORD || kind == NUMBER;
            from = to;
            while (from < length && sortOf(text[from]) == BLANK) {
                from++;
            }
            boolean lacksBlank = needsBlank && from == to;
            kind = from < length ? sortOf(text[from]) : END;
            boolean runs = kind == WORD || kind == NUMBER;
            to = kind == END ? from : from + 1;
            while (runs && to < length && sortOf(text[to]) == kind) {
                to++;
            }
            if (runs && lacksBlank || kind == NUMBER && to - from > MOST_DIGITS) {
                kind = STRAY;
            }
        }

        private static int sortOf(byte b) {
            if (b >= 'a' && b <= 'z') {
                return WORD;
            }
            if (b >= '0' && b <= '9') {
                return NUMBER;
            }
            if (b == ' ' || b == '\n') {
                return BLANK;
            }
            return b == ';' ? SEMICOLON : STRAY;
        }

        boolean sees(String word) {
            if (kind != WORD || to - from != word.length()) {
                return false;
            }
            for (int i = 0; i < word.length(); i++) {
                if (text[from + i] != word.charAt(i)) {
                    return false;
                }
            }
            return true;
        }

        void takeIf(boolean isDue) {
            if (isDue) {
                advance();
            } else {
                fail(SYNTAX, from);
            }
        }

        /** A number within its bounds; 0 with a fault. */
        int takeNumber(int least, int most) {
            if (kind != NUMBER) {
                fail(SYNTAX, from);
                return 0;
            }
            int value = 0;
            for (int i = from; i < to; i++) {
                value = value * 10 + text[i] - '0';
            }
            if (value < least || value > most) {
                fail(NUMBER_CANT_BE, from);
                return 0;
            }
            advance();
            return value;
        }
    }

    /** Reads the text of a design; what it does not tell is as it stands here at first. */
    private static final class Reader {
        private static final int YEAR = 1;
        private static final int EXTRA = 2;
        private static final int LAW = 4;
        private static final int MONTHS = 8;
        private static final int WEEK = 16;
        private static final int TRUE = 32;
        private static final int BEGINS = 64;
        private static final int STATEMENTS = 7;

        private static final int MOST_YEAR_DAYS = 999;
        private static final int MOST_EXTRA = 30;
        private static final int MOST_STEPS = 6;
        private static final int MOST_MONTHS = 15;
        private static final int MOST_WEEK = 10;
        private static final int MOST_BEGIN_BELOW = 1000;

        private final Scanner scanner;
        private int told = 0;
        private int year = 365;
        private int extra = 1;
        private Law law = new Law();
        private int[] months = null;
        private int leapMonth = 0;
        private int week = 7;
        private int firstWeekday = 0;
        private TrueYear trueYear = new TrueYear(365, 0, 1, 0, 1);
        private int above = 0;
        private int below = 1;

        Reader(Scanner scanner) {
            this.scanner = scanner;
        }

        /** Null with a fault, which the scanner keeps. */
        Design readDesign() {
            scanner.advance();
            for (int i = 0; i <= STATEMENTS && scanner.fault == 0 && scanner.kind != Scanner.END; i++) {
                readStatement();
            }
            if (months == null) {
                months = new int[] {year};
            }
            if (sumOfMonths() != year) {
                scanner.fail(Scanner.MONTHS_UNEQUAL, scanner.length);
            }
            if (scanner.fault != 0) {
                return null;
            }
            return new Design(new Frame(year, extra, months, leapMonth, week, firstWeekday), law, trueYear);
        }

        private int sumOfMonths() {
            int days = 0;
            for (int i = 0; i < months.length; i++) {
                days += months[i];
            }
            return days;
        }

        private void readStatement() {
            if (opens("year", YEAR)) {
                year = scanner.takeNumber(1, MOST_YEAR_DAYS);
            } else if (opens("extra", EXTRA)) {
                extra = scanner.takeNumber(1, MOST_EXTRA);
            } else if (opens("even", LAW)) {
                readShare(LONGEST_EVEN, 0);
                law = new EvenLaw(above, below, readShift());
            } else if (opens("every", LAW)) {
                readLadder();
            } else if (opens("row", LAW)) {
                readRow();
            } else if (opens("months", MONTHS)) {
                readMonths();
            } else if (opens("week", WEEK)) {
                readWeek();
            } else if (opens("true", TRUE)) {
                int days = scanner.takeNumber(0, MOST_TRUE_DAYS);
                scanner.takeIf(scanner.sees("and"));
                readShare(MOST_BELOW, 1);
                trueYear = trueYear.withLength(days, above, below);
            } else if (opens("begins", BEGINS)) {
                readShare(MOST_BEGIN_BELOW, 1);
                trueYear = trueYear.withBegin(above, below);
            } else {
                scanner.fail(Scanner.SYNTAX, scanner.from);
            }
            scanner.takeIf(scanner.kind == Scanner.SEMICOLON);
        }

        private boolean opens(String word, int statement) {
            if (!scanner.sees(word)) {
                return false;
            }
            if ((told & statement) != 0) {
                scanner.fail(Scanner.TOLD_ALREADY, scanner.from);
            }
            told |= statement;
            scanner.advance();
            return true;
        }

        /** The upper number waits for the lower one, and is asked against it only when that can be. */
        private void readShare(int most, int lessBy) {
            int abovePlace = scanner.from;
            above = scanner.takeNumber(0, most);
            scanner.takeIf(scanner.sees("of"));
            below = scanner.takeNumber(1, most);
            if (above > below - lessBy) {
                scanner.fail(Scanner.NUMBER_CANT_BE, abovePlace);
            }
        }

        private int readShift() {
            if (!scanner.sees("shift")) {
                return 0;
            }
            scanner.advance();
            return scanner.takeNumber(0, below - 1);
        }

        private void readLadder() {
            int[] steps = new int[MOST_STEPS];
            steps[0] = scanner.takeNumber(1, LONGEST_LADDER_STEP);
            int length = 1;
            while (length <= MOST_STEPS && scanner.sees(length % 2 == 1 ? "not" : "but")) {
                scanner.advance();
                int stepPlace = scanner.from;
                int step = scanner.takeNumber(steps[length - 1] + 1, LONGEST_LADDER_STEP);
                if (!isMultiple(step, steps[length - 1])) {
                    scanner.fail(Scanner.NUMBER_CANT_BE, stepPlace);
                }
                if (length < MOST_STEPS) {
                    steps[length] = step;
                } else {
                    scanner.fail(Scanner.TOO_MANY, stepPlace);
                }
                length++;
            }
            law = new LadderLaw(firstOf(steps, length));
        }

        private static boolean isMultiple(int number, int of) {
            return of > 0 && number % of == 0;
        }

        private static int[] firstOf(int[] numbers, int length) {
            int[] first = new int[Math.min(length, numbers.length)];
            for (int i = 0; i < first.length; i++) {
                first[i] = numbers[i];
            }
            return first;
        }

        private void readRow() {
            int n = scanner.takeNumber(1, LONGEST_ROW);
            int[] before = new int[n + 1];
            int next = 0;
            for (int i = 0; i <= n && scanner.kind == Scanner.NUMBER; i++) {
                int leapYear = scanner.takeNumber(next, n - 1);
                next = leapYear + 1;
                if (next <= n) {
                    before[next] = 1;
                }
            }
            for (int i = 1; i <= n; i++) {
                before[i] += before[i - 1];
            }
            law = new RowLaw(before);
        }

        private void readMonths() {
            int[] days = new int[MOST_MONTHS];
            days[0] = scanner.takeNumber(1, MOST_YEAR_DAYS);
            int length = 1;
            while (length <= MOST_MONTHS && scanner.kind == Scanner.NUMBER) {
                int monthPlace = scanner.from;
                int inMonth = scanner.takeNumber(1, MOST_YEAR_DAYS);
                if (length < MOST_MONTHS) {
                    days[length] = inMonth;
                } else {
                    scanner.fail(Scanner.TOO_MANY, monthPlace);
                }
                length++;
            }
            months = firstOf(days, length);
            leapMonth = months.length - 1;
            if (scanner.sees("leap")) {
                scanner.advance();
                leapMonth = scanner.takeNumber(0, months.length - 1);
            }
        }

        private void readWeek() {
            week = scanner.takeNumber(1, MOST_WEEK);
            scanner.takeIf(scanner.sees("at"));
            firstWeekday = scanner.takeNumber(0, week - 1);
        }
    }
}
