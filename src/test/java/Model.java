import java.math.BigInteger;
import java.util.ArrayList;
import java.util.List;

/**
 * A design as the document's words have it, told year by year and without closed forms: slow, and
 * written apart from the program, so that both are wrong together only where the words were misread.
 */
final class Model {
    static final int LAST = 100000;
    static final long NOTHING = LeapDesigner.NOTHING;

    int year = 365;
    int extra = 1;
    int sort = 0;
    int k;
    int n;
    int s;
    int[] ladder = {};
    int[] row = {};
    int[] months = {365};
    int leapMonth = 0;
    int week = 7;
    int firstWeekday = 0;
    int trueDays = 365;
    int trueP = 0;
    int trueQ = 1;
    int beginP = 0;
    int beginQ = 1;
    private long[] starts;

    /** Index 0 is YEAR -LAST; one more than the last YEAR is there, too. */
    void prepare() {
        starts = new long[2 * LAST + 2];
        starts[LAST] = 0;
        for (int y = 0; y <= LAST; y++) {
            starts[LAST + y + 1] = starts[LAST + y] + days(y);
        }
        for (int y = -1; y >= -LAST; y--) {
            starts[LAST + y] = starts[LAST + y + 1] - days(y);
        }
    }

    boolean leap(int y) {
        if (sort == 1) {
            return BigInteger.valueOf((long) k * y + s).mod(BigInteger.valueOf(n)).intValue() < k;
        }
        boolean is = false;
        for (int i = 0; i < ladder.length; i++) {
            if (Math.abs(y) % ladder[i] == 0) {
                is = i % 2 == 0;
            }
        }
        for (int told : row) {
            is = is || ((y % n) + n) % n == told;
        }
        return is;
    }

    int cycle() {
        if (sort == 0) {
            return 1;
        }
        return sort == 2 ? ladder[ladder.length - 1] : n;
    }

    int days(int y) {
        return leap(y) ? year + extra : year;
    }

    int monthDays(int m, boolean leap) {
        return months[m] + (leap && m == leapMonth ? extra : 0);
    }

    long start(int y) {
        return starts[LAST + y];
    }

    boolean isYear(long y) {
        return y >= -LAST && y <= LAST;
    }

    boolean holds(long number) {
        return number >= starts[0] && number < starts[2 * LAST + 1];
    }

    long date(long number, int what) {
        if (!holds(number) || what < 0 || what > 4) {
            return NOTHING;
        }
        int low = 0;
        int high = 2 * LAST + 1;
        while (high - low > 1) {
            int middle = (low + high) / 2;
            if (starts[middle] <= number) {
                low = middle;
            } else {
                high = middle;
            }
        }
        int y = low - LAST;
        long day = number - starts[low];
        long left = day;
        int m = 0;
        while (left >= monthDays(m, leap(y))) {
            left -= monthDays(m, leap(y));
            m++;
        }
        long[] told = {y, day, m, left, weekday(number)};
        return told[what];
    }

    long weekday(long number) {
        return (((number % week) + week) % week + firstWeekday) % week;
    }

    long dated(int y, int m, int day) {
        if (!isYear(y) || m < 0 || m >= months.length || day < 0 || day >= monthDays(m, leap(y))) {
            return NOTHING;
        }
        long number = start(y) + day;
        for (int i = 0; i < m; i++) {
            number += monthDays(i, leap(y));
        }
        return number;
    }

    Ratio trueYear() {
        return new Ratio(trueDays, 1).plus(new Ratio(trueP, trueQ));
    }

    Ratio trueStart(int y) {
        return trueYear().times(y).plus(new Ratio(beginP, beginQ));
    }

    Ratio drift(int y) {
        return new Ratio(start(y), 1).minus(trueStart(y));
    }

    List<Integer> gaps() {
        List<Integer> leaps = new ArrayList<>();
        for (int y = 0; y < cycle(); y++) {
            if (leap(y)) {
                leaps.add(y);
            }
        }
        List<Integer> gaps = new ArrayList<>();
        for (int i = 0; i < leaps.size(); i++) {
            int after = i + 1 < leaps.size() ? leaps.get(i + 1) : leaps.get(0) + cycle();
            gaps.add(after - leaps.get(i));
        }
        return gaps;
    }

    String text() {
        StringBuilder out = new StringBuilder("year " + year + ";extra " + extra + ";");
        if (sort == 1) {
            out.append("even " + k + " of " + n + " shift " + s + ";");
        } else if (sort == 2) {
            for (int i = 0; i < ladder.length; i++) {
                out.append(i == 0 ? "every " : i % 2 == 1 ? " not " : " but ").append(ladder[i]);
            }
            out.append(";");
        } else if (sort == 3) {
            out.append("row " + n);
            for (int told : row) {
                out.append(" " + told);
            }
            out.append(";");
        }
        out.append("months");
        for (int days : months) {
            out.append(" " + days);
        }
        out.append(" leap " + leapMonth + ";week " + week + " at " + firstWeekday + ";");
        out.append("true " + trueDays + " and " + trueP + " of " + trueQ + ";begins " + beginP + " of " + beginQ + ";");
        return out.toString();
    }

    /** A fraction of any size, in least terms, the lower number above 0. */
    static final class Ratio implements Comparable<Ratio> {
        final BigInteger above;
        final BigInteger below;

        Ratio(long above, long below) {
            this(BigInteger.valueOf(above), BigInteger.valueOf(below));
        }

        Ratio(BigInteger above, BigInteger below) {
            BigInteger divisor = above.gcd(below);
            divisor = below.signum() < 0 ? divisor.negate() : divisor;
            this.above = above.divide(divisor);
            this.below = below.divide(divisor);
        }

        Ratio plus(Ratio o) {
            return new Ratio(above.multiply(o.below).add(o.above.multiply(below)), below.multiply(o.below));
        }

        Ratio minus(Ratio o) {
            return plus(o.times(-1));
        }

        Ratio times(long by) {
            return new Ratio(above.multiply(BigInteger.valueOf(by)), below);
        }

        Ratio times(Ratio o) {
            return new Ratio(above.multiply(o.above), below.multiply(o.below));
        }

        Ratio by(Ratio o) {
            return new Ratio(above.multiply(o.below), below.multiply(o.above));
        }

        Ratio abs() {
            return new Ratio(above.abs(), below);
        }

        long floor() {
            BigInteger[] parts = above.divideAndRemainder(below);
            return parts[0].longValueExact() - (parts[1].signum() < 0 ? 1 : 0);
        }

        long part(int part) {
            return part == 0 ? above.longValueExact() : part == 1 ? below.longValueExact() : NOTHING;
        }

        @Override
        public int compareTo(Ratio o) {
            return above.multiply(o.below).compareTo(o.above.multiply(below));
        }
    }
}
