import java.util.List;

/** The program against the model, on designs and arguments by chance. */
public final class ModelTest {
    private static final Check CHECK = new Check("ModelTest");
    private static final long NOTHING = LeapDesigner.NOTHING;
    private static final int NONE = LeapDesigner.NONE;

    private final Dice dice;
    private final Model a;
    private final Model b;
    private final LeapDesigner x = new LeapDesigner();
    private final String name;

    private ModelTest(int seed) {
        dice = new Dice(seed);
        name = "seed " + seed + " ";
        a = dice.model();
        b = dice.once(3) ? shifted(a) : dice.model();
        a.prepare();
        b.prepare();
    }

    public static void main(String[] args) {
        for (int seed = 1; seed <= Integer.getInteger("seeds", 90); seed++) {
            new ModelTest(seed).all();
        }
        CHECK.end();
    }

    /** The same law some years later, so that designs are like one another now and then. */
    private Model shifted(Model of) {
        Model m = dice.model();
        int n = of.cycle();
        if (n > 400) {
            return m;
        }
        int by = dice.from(0, n - 1);
        m.sort = 3;
        m.ladder = new int[0];
        m.n = n;
        int[] told = new int[n];
        int count = 0;
        for (int y = 0; y < n && count < 110; y++) {
            if (of.leap(y - by)) {
                told[count] = y;
                count++;
            }
        }
        m.row = java.util.Arrays.copyOf(told, count);
        return m;
    }

    private void due(String call, long want, long got) {
        CHECK.due(name + call, want, got);
    }

    private void all() {
        design();
        for (int i = 0; i < 40; i++) {
            years();
            dates();
            weekdays();
            moons();
        }
        for (int i = 0; i < 6; i++) {
            drift();
            stretches();
            compared();
            joined();
        }
        suggestions();
        cycles();
    }

    private void design() {
        due("design " + a.text(), a.cycle(), Check.design(x, 0, dice.spoken(a)));
        due("design " + b.text(), b.cycle(), Check.design(x, 1, dice.spoken(b)));
        due("written", 1, Check.written(x, 0).equals(a.text()) ? 1 : 0);
        int[] has = {a.year, a.extra, a.sort, a.months.length, a.leapMonth, a.week, a.firstWeekday, a.cycle(),
            a.gaps().size(), a.sort == 1 ? a.k : NONE, a.sort == 1 ? a.n : NONE, a.sort == 1 ? a.s : NONE, NONE};
        for (int what = 0; what < has.length; what++) {
            due("has " + what, has[what], x.has(0, what));
        }
        for (int m = -1; m <= a.months.length; m++) {
            boolean there = m >= 0 && m < a.months.length;
            due("month " + m, there ? a.monthDays(m, false) : NONE, x.month(0, m, false));
            due("leap month " + m, there ? a.monthDays(m, true) : NONE, x.month(0, m, true));
        }
        Model.Ratio mean = new Model.Ratio(a.start(a.cycle()), a.cycle());
        for (int part = -1; part <= 2; part++) {
            due("mean " + part, mean.part(part), x.mean(0, false, part));
            due("true " + part, a.trueYear().part(part), x.mean(0, true, part));
        }
    }

    private void years() {
        int y = dice.anyYear();
        int z = dice.once(2) ? dice.anyYear() : y + dice.from(-100, 500);
        boolean can = a.isYear(y);
        due("leap " + y, can ? a.leap(y) ? 1 : 0 : NONE, x.leap(0, y));
        due("start " + y, can ? a.start(y) : NOTHING, x.start(0, y));
        int day = dice.about(0, a.year + a.extra);
        due("number " + y + " " + day, can && day >= 0 && day < a.days(y) ? a.start(y) + day : NOTHING, x.number(0, y, day));
        int leaps = 0;
        for (int i = y; i < z && a.isYear(y) && a.isYear(z); i++) {
            leaps += a.leap(i) ? 1 : 0;
        }
        due("leaps " + y + " " + z, a.isYear(y) && a.isYear(z) ? leaps : NONE, x.leaps(0, y, z));
        int n = dice.about(1, 62);
        long bits = 0;
        for (int i = 0; i < n; i++) {
            bits |= a.leap(y + i) ? 1L << i : 0;
        }
        boolean fits = n >= 1 && n <= 62 && a.isYear(y) && a.isYear(y + n - 1);
        due("pattern " + y + " " + n, fits ? bits : NOTHING, x.pattern(0, y, n));
        int k = dice.once(3) ? dice.about(-1000, 1000) : dice.from(-5, 5);
        due("next " + y + " " + k, next(y, k), x.next(0, y, k));
    }

    private long next(int from, int k) {
        if (!a.isYear(from) || k == 0 || Math.abs(k) > 1000) {
            return NOTHING;
        }
        int step = k > 0 ? 1 : -1;
        int left = Math.abs(k);
        for (int y = from + step; a.isYear(y); y += step) {
            left -= a.leap(y) ? 1 : 0;
            if (left == 0) {
                return y;
            }
        }
        return NOTHING;
    }

    private long anyNumber(Model m) {
        switch (dice.from(0, 7)) {
            case 0:
                return m.start(-100000) + dice.from(-2, 2);
            case 1:
                return m.start(100000) + m.days(100000) + dice.from(-2, 2);
            case 2:
                return m.start(dice.from(-100000, 100000)) + dice.from(-1, 1);
            default:
                return m.start(dice.from(-300, 3000)) + dice.from(-1, 400);
        }
    }

    private void dates() {
        long number = anyNumber(a);
        for (int what = -1; what <= 5; what++) {
            due("date " + number + " " + what, a.date(number, what), x.date(0, number, what));
        }
        int shift = dice.once(3) ? dice.about(-1000000, 1000000) : dice.from(-3, 3);
        boolean can = a.holds(number) && Math.abs(shift) <= 1000000;
        int what = dice.from(-1, 5);
        due("taken " + number + " " + shift, can ? b.date(number + shift, what) : NOTHING, x.taken(0, number, 1, shift, what));
        int y = dice.anyYear();
        int m = dice.about(0, a.months.length - 1);
        int day = dice.about(0, a.months[0] + a.extra);
        due("dated " + y + " " + m + " " + day, a.dated(y, m, day), x.dated(0, y, m, day));
        int years = dice.once(3) ? dice.anyYear() : dice.from(-20, 20);
        long want = NOTHING;
        if (a.dated(y, m, day) != NOTHING && a.isYear((long) y + years)) {
            int d = day;
            while (a.dated(y + years, m, d) == NOTHING) {
                d--;
            }
            want = a.dated(y + years, m, d);
        }
        due("later " + y + " " + m + " " + day + " " + years, want, x.later(0, y, m, day, years));
    }

    private void weekdays() {
        int y = dice.anyYear();
        int n = dice.once(8) ? dice.about(1, 5000) : dice.about(1, 60);
        int m = dice.about(0, a.months.length - 1);
        int day = dice.about(0, a.monthDays(Math.floorMod(m, a.months.length), true) - 1);
        int w = dice.about(0, a.week - 1);
        boolean years = a.isYear(y) && n >= 1 && n <= 5000 && a.isYear(y + n - 1);
        boolean can = years && m >= 0 && m < a.months.length && w >= 0 && w < a.week;
        can = can && day >= 0 && day < a.monthDays(m, true);
        due("falls " + y + " " + n + " " + m + " " + day + " " + w, can ? falls(y, n, m, day, w) : NONE, x.falls(0, y, n, m, day, w));
        int busyDay = dice.about(0, 99);
        can = years && busyDay >= 0 && busyDay <= 99 && w >= 0 && w < a.week;
        int most = 0;
        int busy = NONE;
        for (int i = 0; i < a.months.length && can; i++) {
            int times = falls(y, n, i, busyDay, w);
            busy = times > most ? i : busy;
            most = Math.max(most, times);
        }
        due("busiest 0 " + y + " " + n + " " + busyDay + " " + w, can ? busy : NOTHING, x.busiest(0, y, n, busyDay, w, 0));
        due("busiest 1 " + y + " " + n + " " + busyDay + " " + w, can ? most : NOTHING, x.busiest(0, y, n, busyDay, w, 1));
        due("busiest 2", NOTHING, x.busiest(0, y, n, busyDay, w, 2));
        int k = dice.once(6) ? dice.about(1, 200) : dice.from(1, 6);
        due("nth " + y + " " + m + " " + w + " " + k, nth(y, m, w, k, false), x.nth(0, y, m, w, k, false));
        due("nth last " + y + " " + m + " " + w + " " + k, nth(y, m, w, k, true), x.nth(0, y, m, w, k, true));
    }

    private int falls(int from, int n, int m, int day, int w) {
        int times = 0;
        for (int y = from; y < from + n; y++) {
            long number = a.dated(y, m, day);
            times += number != NOTHING && a.weekday(number) == w ? 1 : 0;
        }
        return times;
    }

    private long nth(int y, int m, int w, int k, boolean last) {
        if (a.dated(y, m, 0) == NOTHING || k < 1 || k > 200) {
            return NOTHING;
        }
        int days = a.monthDays(m, a.leap(y));
        int left = k;
        for (int i = 0; i < days; i++) {
            long number = a.dated(y, m, last ? days - 1 - i : i);
            left -= a.weekday(number) == w ? 1 : 0;
            if (left == 0) {
                return number;
            }
        }
        return NOTHING;
    }

    private void moons() {
        int q = dice.once(4) ? dice.about(1, 100000) : dice.from(1, 1000);
        long p = dice.once(4) ? q * (long) dice.about(2, 1000) + dice.from(-1, 1) : q * 29L + dice.from(0, q);
        int top = (int) Math.min(p, 10000001L);
        boolean moon = q >= 1 && q <= 100000 && top >= 1 && top <= 10000000 && top >= 2L * q && top <= 1000L * q;
        int y = dice.anyYear();
        boolean can = moon && a.isYear(y);
        long first = NONE;
        long last = NONE;
        int count = 0;
        for (int day = 0; can && day < a.days(y); day++) {
            if (newMoon(a.start(y) + day, top, q)) {
                first = first == NONE ? day : first;
                last = day;
                count++;
            }
        }
        String call = y + " " + top + " " + q;
        due("moons 0 " + call, can ? count : NOTHING, x.moons(0, y, top, q, 0));
        due("moons 1 " + call, can ? first : NOTHING, x.moons(0, y, top, q, 1));
        due("moons 2 " + call, can ? last : NOTHING, x.moons(0, y, top, q, 2));
        due("moons 3 " + call, NOTHING, x.moons(0, y, top, q, 3));
        long number = anyNumber(a);
        long age = 0;
        while (moon && a.holds(number) && !newMoon(number - age, top, q)) {
            age++;
        }
        due("age " + number + " " + top + " " + q, moon && a.holds(number) ? age : NOTHING, x.age(0, number, top, q));
        int n = dice.once(8) ? dice.about(1, 5000) : dice.about(1, 60);
        int m = dice.about(0, a.months.length - 1);
        int day = dice.about(0, a.monthDays(Math.floorMod(m, a.months.length), true) - 1);
        can = moon && a.isYear(y) && n >= 1 && n <= 5000 && a.isYear(y + n - 1) && m >= 0 && m < a.months.length;
        can = can && day >= 0 && day < a.monthDays(m, true);
        long meets = NOTHING;
        for (int z = y; can && z < y + n && meets == NOTHING; z++) {
            meets = a.dated(z, m, day) != NOTHING && newMoon(a.dated(z, m, day), top, q) ? z : NOTHING;
        }
        due("meets " + call + " " + n + " " + m + " " + day, meets, x.meets(0, y, n, m, day, top, q));
    }

    /** Whether a whole number of moons ends in the day: some k with number <= k p by q < number + 1. */
    private static boolean newMoon(long number, int p, int q) {
        long k = Math.floorDiv(number * q, (long) p);
        for (long i = k - 1; i <= k + 1; i++) {
            if (i * p >= number * q && i * p < (number + 1) * q) {
                return true;
            }
        }
        return false;
    }

    private void drift() {
        int y = dice.anyYear();
        for (int part = -1; part <= 2; part++) {
            due("drift " + y + " " + part, a.isYear(y) ? a.drift(y).part(part) : NOTHING, x.drift(0, y, part));
        }
        int bound = dice.once(3) ? dice.about(1, 9999) : dice.from(1, 20);
        due("passes " + bound, passes(bound), x.passes(0, bound));
    }

    private long passes(int bound) {
        for (int y = 0; y <= 20000 && bound >= 1 && bound <= 9999; y++) {
            if (a.drift(y).minus(a.drift(0)).abs().compareTo(new Model.Ratio(bound, 1)) > 0) {
                return y;
            }
        }
        return NONE;
    }

    private void stretches() {
        int from = dice.anyYear();
        int to = dice.once(6) ? from + dice.from(20000, 20001) : from + dice.from(-1, 300);
        boolean can = a.isYear(from) && a.isYear(to) && from <= to && to - from <= 20000;
        int least = from;
        int most = from;
        for (int y = from; can && y <= to; y++) {
            least = a.drift(y).compareTo(a.drift(least)) < 0 ? y : least;
            most = a.drift(y).compareTo(a.drift(most)) > 0 ? y : most;
        }
        String call = from + " " + to;
        for (int what = -1; what <= 3; what++) {
            boolean fits = can && what >= 0 && what <= 2;
            due("least " + call, !fits ? NOTHING : what == 2 ? least : a.drift(least).part(what), x.extreme(0, from, to, false, what));
            due("most " + call, !fits ? NOTHING : what == 2 ? most : a.drift(most).part(what), x.extreme(0, from, to, true, what));
        }
        dawns(from, to, can);
        steady(from, to, can);
        apart(from, to, can);
    }

    private void dawns(int from, int to, boolean can) {
        long least = Long.MAX_VALUE;
        long greatest = -1;
        long strangers = 0;
        boolean fits = can;
        for (int y = from; fits && y <= to; y++) {
            long number = a.trueStart(y).floor();
            fits = a.holds(number);
            least = Math.min(least, a.date(number, 1));
            greatest = Math.max(greatest, a.date(number, 1));
            strangers += a.date(number, 0) == y ? 0 : 1;
        }
        due("dawns 0 " + from + " " + to, fits ? least : NONE, x.dawns(0, from, to, 0));
        due("dawns 1 " + from + " " + to, fits ? greatest : NONE, x.dawns(0, from, to, 1));
        due("dawns 2 " + from + " " + to, fits ? strangers : NONE, x.dawns(0, from, to, 2));
        due("dawns 3 " + from + " " + to, NONE, x.dawns(0, from, to, 3));
    }

    private void steady(int from, int to, boolean can) {
        int bound = dice.once(4) ? dice.about(0, 9999) : dice.from(0, 3);
        boolean fits = can && bound >= 0 && bound <= 9999;
        int longest = 0;
        int first = NONE;
        int length = 0;
        for (int y = from; fits && y <= to; y++) {
            length = a.drift(y).abs().compareTo(new Model.Ratio(bound, 1)) <= 0 ? length + 1 : 0;
            if (length > longest) {
                longest = length;
                first = y - length + 1;
            }
        }
        due("steady 0 " + from + " " + to + " " + bound, fits ? longest : NOTHING, x.steady(0, from, to, bound, 0));
        due("steady 1 " + from + " " + to + " " + bound, fits ? first : NOTHING, x.steady(0, from, to, bound, 1));
        due("steady 2", NOTHING, x.steady(0, from, to, bound, 2));
    }

    private void apart(int from, int to, boolean can) {
        int times = 0;
        int first = NONE;
        long farthest = -1;
        int firstFarthest = NONE;
        for (int y = from; can && y <= to; y++) {
            if (a.leap(y) != b.leap(y)) {
                first = times == 0 ? y : first;
                times++;
            }
            long distance = Math.abs(a.start(y) - b.start(y));
            firstFarthest = distance > farthest ? y : firstFarthest;
            farthest = Math.max(farthest, distance);
        }
        long[] want = {times, first, farthest, firstFarthest, NOTHING};
        for (int what = 0; what < want.length; what++) {
            due("apart " + from + " " + to + " " + what, can ? want[what] : NOTHING, x.apart(0, 1, from, to, what));
        }
    }

    private void compared() {
        int years = dice.once(3) ? dice.about(1, 100000) : dice.from(1, 2000);
        int bound = dice.once(3) ? dice.about(1, 9999) : dice.from(1, 10);
        boolean can = years >= 1 && years <= 100000 && bound >= 1 && bound <= 9999;
        long n = NOTHING;
        long k = NOTHING;
        for (int i = 1; can && i <= 1000 && n == NOTHING; i++) {
            Model.Ratio nearest = null;
            for (int j = 0; j <= i; j++) {
                Model.Ratio off = new Model.Ratio((long) a.extra * j, i).plus(new Model.Ratio(a.year, 1)).minus(a.trueYear());
                off = off.times(years).abs();
                if (off.compareTo(new Model.Ratio(bound, 1)) <= 0 && (nearest == null || off.compareTo(nearest) < 0)) {
                    nearest = off;
                    n = i;
                    k = j;
                }
            }
            if (i > 60) {
                return;
            }
        }
        due("within 0 " + years + " " + bound, n, x.within(0, years, bound, 0));
        due("within 1 " + years + " " + bound, k, x.within(0, years, bound, 1));
        due("within 2", NOTHING, x.within(0, years, bound, 2));
    }

    private void joined() {
        long seam = anyNumber(a);
        int y = dice.once(3) ? dice.anyYear() : (int) Math.max(-100000, Math.min(100000, a.date(seam, 0)));
        int m = dice.from(0, b.months.length - 1);
        int day = dice.about(0, b.months[m] - 1);
        boolean can = a.holds(seam) && b.dated(y, m, day) != NOTHING;
        due("join " + seam + " " + y + " " + m + " " + day, can ? 1 : -2, x.join(0, seam, 1, y, m, day));
        if (!can) {
            return;
        }
        long ahead = b.dated(y, m, day) - seam;
        for (int i = 0; i < 20; i++) {
            long number = dice.coin() ? seam + dice.from(-3, 3) : jointNumber(seam, ahead);
            int what = dice.from(-1, 5);
            due("joined " + number + " " + what, joinedDate(number, what, seam, ahead), x.joined(number, what));
            int[] one = jointDate(seam, ahead);
            int[] two = jointDate(seam, ahead);
            int often = 0;
            often += early(one, seam) == NOTHING ? 0 : 1;
            often += late(one, seam, ahead) == NOTHING ? 0 : 1;
            due("often", often, x.often(one[0], one[1], one[2]));
            long from = first(one, seam, ahead);
            long to = first(two, seam, ahead);
            long span = from == NOTHING || to == NOTHING ? NOTHING : to - from;
            due("span", span, x.span(one[0], one[1], one[2], two[0], two[1], two[2]));
        }
    }

    private long joinedDate(long number, int what, long seam, long ahead) {
        if (!a.holds(number) || number < seam) {
            return a.date(number, what);
        }
        if (!b.holds(number + ahead)) {
            return NOTHING;
        }
        return what == 4 ? a.weekday(number) : b.date(number + ahead, what);
    }

    /** Near the seam, near where the first one's or the second one's days end, or any. */
    private long jointNumber(long seam, long ahead) {
        switch (dice.from(0, 4)) {
            case 0:
                return a.start(100001) + dice.from(-4, 4);
            case 1:
                return b.start(100001) - ahead + dice.from(-4, 4);
            case 2:
                return anyNumber(a);
            default:
                return seam + dice.from(-800, 800);
        }
    }

    private int[] jointDate(long seam, long ahead) {
        long number = jointNumber(seam, ahead);
        Model m = dice.coin() ? a : b;
        long told = m == a ? number : number + ahead;
        if (!m.holds(told)) {
            return new int[] {dice.anyYear(), 0, 0};
        }
        return new int[] {(int) m.date(told, 0), (int) m.date(told, 2), (int) m.date(told, 3)};
    }

    private long early(int[] date, long seam) {
        long number = a.dated(date[0], date[1], date[2]);
        return number != NOTHING && number < seam ? number : NOTHING;
    }

    private long late(int[] date, long seam, long ahead) {
        long number = b.dated(date[0], date[1], date[2]);
        boolean there = number != NOTHING && number - ahead >= seam && a.holds(number - ahead);
        return there ? number - ahead : NOTHING;
    }

    private long first(int[] date, long seam, long ahead) {
        return early(date, seam) != NOTHING ? early(date, seam) : late(date, seam, ahead);
    }

    private void suggestions() {
        Model.Ratio part = a.trueYear().minus(new Model.Ratio(a.year, 1)).by(new Model.Ratio(a.extra, 1));
        boolean can = part.above.signum() >= 0 && part.above.compareTo(part.below) <= 0;
        can = can && part.below.longValueExact() <= 1000000;
        int n = dice.about(1, 1000);
        can = can && n >= 1 && n <= 1000;
        Model.Ratio best = can ? Fractions.best(part, n) : null;
        long off = NOTHING;
        if (can) {
            Model.Ratio each = best.minus(part).times(a.extra).abs();
            off = each.above.signum() == 0 ? 0 : new Model.Ratio(1, 1).by(each).floor();
        }
        due("suggests 0 " + n, can ? best.part(0) : NOTHING, x.suggests(0, n, 0));
        due("suggests 1 " + n, can ? best.part(1) : NOTHING, x.suggests(0, n, 1));
        due("suggests 2 " + n, off, x.suggests(0, n, 2));
        due("suggests 3 " + n, NOTHING, x.suggests(0, n, 3));
    }

    private void cycles() {
        List<Integer> gaps = a.gaps();
        int least = gaps.stream().min(Integer::compare).orElse(0);
        int greatest = gaps.stream().max(Integer::compare).orElse(0);
        long times = gaps.stream().filter(gap -> gap == greatest).count();
        due("gap 0", least, x.gap(0, 0));
        due("gap 1", greatest, x.gap(0, 1));
        due("gap 2", times, x.gap(0, 2));
        due("gap 3", NONE, x.gap(0, 3));
        due("even", greatest - least <= 1 ? 1 : 0, x.even(0));
        int weeks = a.cycle();
        while (a.start(weeks) % a.week != 0) {
            weeks += a.cycle();
        }
        due("weeks", weeks, x.weeks(0));
        due("like", like(a, b), x.like(0, 1));
        due("like back", like(b, a), x.like(1, 0));
        due("like itself", 0, x.like(0, 0));
        due("keeps", keeps(), x.keeps(0));
        long later = a.cycle() > 400 ? -3 : a.cycle();
        due("asRow", later, x.asRow(0));
        for (int y = -50; y < 50; y++) {
            due("leap as row " + y, a.leap(y) ? 1 : 0, x.leap(0, y));
            due("start as row " + y, a.start(y), x.start(0, y));
        }
    }

    private static int like(Model one, Model other) {
        int n = one.cycle();
        for (int by = 0; by < n && other.cycle() == n; by++) {
            int y = 0;
            while (y < n && one.leap(y - by) == other.leap(y)) {
                y++;
            }
            if (y == n) {
                return by;
            }
        }
        return NONE;
    }

    private int keeps() {
        if (a.sort != 1) {
            return NONE;
        }
        if (a.n > 60) {
            return keepsByLongs();
        }
        int was = a.s;
        Model.Ratio least = null;
        int kept = 0;
        for (int s = 0; s < a.n; s++) {
            a.s = s;
            Model.Ratio farthest = new Model.Ratio(0, 1);
            long start = 0;
            for (int y = 0; y < a.n; y++) {
                Model.Ratio off = new Model.Ratio(start, 1).minus(a.trueStart(y)).abs();
                farthest = off.compareTo(farthest) > 0 ? off : farthest;
                start += a.days(y);
            }
            if (least == null || farthest.compareTo(least) < 0) {
                least = farthest;
                kept = s;
            }
        }
        a.s = was;
        return kept;
    }

    private int keepsByLongs() {
        long unit = (long) a.trueQ * a.beginQ;
        long trueUnits = ((long) a.trueDays * a.trueQ + a.trueP) * a.beginQ;
        long least = Long.MAX_VALUE;
        int kept = 0;
        for (int s = 0; s < a.n; s++) {
            long here = -(long) a.beginP * a.trueQ;
            long farthest = 0;
            for (int y = 0; y < a.n; y++) {
                farthest = Math.max(farthest, Math.abs(here));
                here += (a.year + ((a.k * y + s) % a.n < a.k ? a.extra : 0)) * unit - trueUnits;
            }
            if (farthest < least) {
                least = farthest;
                kept = s;
            }
        }
        return kept;
    }
}
