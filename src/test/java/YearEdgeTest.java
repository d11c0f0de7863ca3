/** Terms II and promises 17 to 24, a method a sentence that names an edge: leap years, starts, numbers of days, dates. */
public final class YearEdgeTest {
    private static final Check CHECK = new Check("YearEdgeTest");
    private static final long NOTHING = -1000000000000000L;
    // YEARS 0, 2, 4 .. have 13 days, the others 10: 23 in two YEARS.
    private static final String TWO = "year 10;extra 3;every 2;months 4 6 leap 0;week 4 at 2;";
    private static final String HUNDRED = "year 100;week 10 at 1;";
    private static final long FIRST = -1150000;
    private static final long LAST = 1150012;
    private static final String[] LAWS = {"", "even 0 of 7;", "even 7 of 7;", "even 3 of 8 shift 5;", "even 999 of 1000 shift 999;", "every 1;",
        "every 9999;", "every 2 not 4 but 8 not 16 but 32 not 64;", "row 1 0;", "row 400 0 399;", "row 5 1 4;", "extra 30;row 3 2;"};

    public static void main(String[] args) {
        leapEven();
        leapEvery();
        leapRow();
        leapNone();
        leapsEmpty();
        leapsWholeRange();
        startsAddUp();
        startOfEdges();
        numberBounds();
        dateEdges();
        dateOfEdgesOfLaws();
        dateMonths();
        dateWeekdays();
        dateOthers();
        datedBounds();
        laterLastDay();
        laterRefused();
        takenShift();
        takenNumbers();
        takenOthers();
        CHECK.end();
    }

    private static void due(String call, long want, long got) {
        CHECK.due(call, want, got);
    }

    private static void leapYears(String text, int from, String want) {
        LeapDesigner x = Check.with(text);
        for (int i = 0; i < want.length(); i++) {
            due("17 '" + text + "' in " + (from + i), want.charAt(i) - '0', x.leap(0, from + i));
        }
    }

    // ---- which YEARS are LEAP, and promise 17

    /** If (K y and S) modulo N is below K, the modulo 0 or more. */
    private static void leapEven() {
        // modulo 8 of -8 .. 8: 5 0 3 6 1 4 7 2, again and again
        leapYears("even 3 of 8 shift 5;", -8, "01001001010010010");
        leapYears("even 1 of 4;", -4, "100010001");
        leapYears("even 1 of 4 shift 3;", -4, "010001000");
        leapYears("even 3 of 4;", -4, "101110111");
        leapYears("even 0 of 3;", -3, "0000000");
        leapYears("even 3 of 3 shift 2;", -3, "1111111");
        leapYears("even 1 of 1;", -1, "111");
        leapYears("even 0 of 1;", -1, "000");
        leapYears("even 1 of 1000 shift 999;", -1001, "001000");
        LeapDesigner x = Check.with("even 999 of 1000 shift 998;");
        // 999 y and 998 modulo 1000 is 999 where y is 999 modulo 1000
        due("17 the only common one", 0, x.leap(0, 999));
        due("17 the only common one, below 0", 0, x.leap(0, -1));
        due("17 the only common one, at the end", 0, x.leap(0, 99999));
        due("17 the first YEAR", 1, x.leap(0, -100000));
        due("17 the last YEAR", 1, x.leap(0, 100000));
    }

    /** Of those that divide y the last one tells. */
    private static void leapEvery() {
        String six = "every 2 not 4 but 8 not 16 but 32 not 64;";
        leapYears(six, -8, "10100010001000101");
        LeapDesigner x = Check.with(six, "every 2 not 4 but 8 not 16 but 32;", "every 1;", "every 9999;", "every 3 not 9;");
        int[] years = {1, 2, 4, 8, 16, 32, 64, 96, 48, 128, 3};
        int[] want = {0, 1, 0, 1, 0, 1, 0, 1, 0, 0, 0};
        for (int i = 0; i < years.length; i++) {
            due("17 six of every, " + years[i], want[i], x.leap(0, years[i]));
            due("17 six of every, " + -years[i], want[i], x.leap(0, -years[i]));
        }
        due("17 YEAR 0 by the sixth", 0, x.leap(0, 0));
        due("17 YEAR 0 by the fifth", 1, x.leap(1, 0));
        due("17 64 by the fifth", 1, x.leap(1, 64));
        due("17 every 1", 1, x.leap(2, -99999));
        due("17 every 9999, 0", 1, x.leap(3, 0));
        due("17 every 9999", 1, x.leap(3, 99990));
        due("17 every 9999, below 0", 1, x.leap(3, -9999));
        due("17 every 9999, beside", 0, x.leap(3, 9998));
        due("17 every 9999, beside it", 0, x.leap(3, 10000));
        due("17 not at the end", 0, x.leap(4, 9));
        due("17 not at the end, 0", 0, x.leap(4, 0));
        due("17 not at the end, 6", 1, x.leap(4, -6));
    }

    private static void leapRow() {
        leapYears("row 5 1 4;", -5, "010010100101001");
        leapYears("row 5 0;", -5, "10000100001");
        leapYears("row 1 0;", -1, "111");
        leapYears("row 1;", -1, "000");
        leapYears("row 400 399;", -2, "010");
        leapYears("row 400 0;", -1, "010");
        leapYears("row 400 399;", 398, "010");
        leapYears("row 400 0;", 399, "010");
    }

    private static void leapNone() {
        leapYears("", -100000, "000");
        leapYears("extra 30;", 99998, "000");
    }

    // ---- promise 18

    /** From one YEAR on, ahead of another one (0 if that is no later). */
    private static void leapsEmpty() {
        LeapDesigner x = Check.with("every 1;", TWO);
        due("18 the same YEAR", 0, x.leaps(0, 5, 5));
        due("18 an earlier one", 0, x.leaps(0, 5, 4));
        due("18 the first for the last", 0, x.leaps(0, 100000, -100000));
        due("18 one YEAR", 1, x.leaps(0, 5, 6));
        due("18 the last alone", 1, x.leaps(0, 99999, 100000));
        due("18 the last itself", 0, x.leaps(0, 100000, 100000));
        due("18 the first itself", 0, x.leaps(0, -100000, -100000));
        due("18 from a LEAP one", 1, x.leaps(1, 4, 6));
        due("18 ahead of a LEAP one", 1, x.leaps(1, 3, 6));
        due("18 no later, but no YEAR", -1, x.leaps(0, 5, -100001));
        due("18 no later, but from no YEAR", -1, x.leaps(0, 100001, 5));
    }

    private static void leapsWholeRange() {
        // every 9999: -99990 .. 99990; of six by every: 21 of 64; row 3 2: -100000, -99997 .. 99998
        int[] all = {0, 0, 200000, 75000, 199800, 200000, 21, 65625, 200000, 1000, 80000, 66667};
        for (int i = 0; i < LAWS.length; i++) {
            LeapDesigner x = Check.with(LAWS[i]);
            due("18 all of '" + LAWS[i] + "'", all[i], x.leaps(0, -100000, 100000));
            due("18 over 0 of '" + LAWS[i] + "'", x.leap(0, -2) + x.leap(0, -1) + x.leap(0, 0) + x.leap(0, 1), x.leaps(0, -2, 2));
        }
    }

    // ---- promise 19

    private static void startsAddUp() {
        for (String law : LAWS) {
            LeapDesigner x = Check.with(law);
            int extra = x.has(0, 1);
            due("19 day 0 is the first of YEAR 0 of '" + law + "'", 0, x.start(0, 0));
            for (int y : new int[] {-100000, -99999, -401, -2, -1, 0, 1, 2, 399, 400, 9998, 9999, 99998, 99999}) {
                long length = x.start(0, y + 1) - x.start(0, y);
                due("19 days of " + y + " of '" + law + "'", 365 + extra * x.leap(0, y), length);
            }
        }
    }

    private static void startOfEdges() {
        LeapDesigner x = Check.with(TWO, "year 999;extra 30;every 1;", "year 1;");
        due("19 the last", 1150000, x.start(0, 100000));
        due("19 the first", FIRST, x.start(0, -100000));
        due("19 ahead of 0", -10, x.start(0, -1));
        due("19 the greatest", 102900000, x.start(1, 100000));
        due("19 the least", -102900000, x.start(1, -100000));
        due("19 years of a day", 100000, x.start(2, 100000));
        due("19 behind the last", NOTHING, x.start(0, 100001));
        due("19 ahead of the first", NOTHING, x.start(0, -100001));
    }

    // ---- promise 20

    /** DAYS of YEARS: 0 .. its length less 1. */
    private static void numberBounds() {
        LeapDesigner x = Check.with(TWO);
        due("20 the first of a leap one", 0, x.number(0, 0, 0));
        due("20 the last of a leap one", 12, x.number(0, 0, 12));
        due("20 behind the last of a leap one", NOTHING, x.number(0, 0, 13));
        due("20 the first of a common one", 13, x.number(0, 1, 0));
        due("20 the last of a common one", 22, x.number(0, 1, 9));
        due("20 behind the last of a common one", NOTHING, x.number(0, 1, 10));
        due("20 ahead of the first", NOTHING, x.number(0, 1, -1));
        due("20 the least", NOTHING, x.number(0, 1, Integer.MIN_VALUE));
        due("20 the greatest", NOTHING, x.number(0, 1, Integer.MAX_VALUE));
        due("20 the first of all", FIRST, x.number(0, -100000, 0));
        due("20 the last of all", LAST, x.number(0, 100000, 12));
        due("20 behind the last of all", NOTHING, x.number(0, 100000, 13));
        due("20 of no YEAR", NOTHING, x.number(0, 100001, 0));
        due("20 of no YEAR, ahead", NOTHING, x.number(0, -100001, 12));
    }

    // ---- promise 21

    private static void date(LeapDesigner x, int s, long number, long... want) {
        for (int what = 0; what < want.length; what++) {
            due("21 date(" + s + ", " + number + ", " + what + ")", want[what], x.date(s, number, what));
        }
    }

    private static void dateEdges() {
        LeapDesigner x = Check.with(TWO);
        date(x, 0, FIRST, -100000, 0, 0, 0, 2);
        date(x, 0, FIRST + 12, -100000, 12, 1, 5, 2);
        date(x, 0, FIRST + 13, -99999, 0, 0, 0, 3);
        date(x, 0, LAST - 12, 100000, 0, 0, 0, 2);
        date(x, 0, LAST, 100000, 12, 1, 5, 2);
        date(x, 0, LAST - 13, 99999, 9, 1, 5, 1);
        long[] none = {FIRST - 1, LAST + 1, FIRST - 23, LAST + 23, Long.MIN_VALUE, Long.MAX_VALUE, 1L << 32, -(1L << 32)};
        for (long number : none) {
            date(x, 0, number, NOTHING, NOTHING, NOTHING, NOTHING, NOTHING);
        }
    }

    private static void dateOfEdgesOfLaws() {
        for (String law : LAWS) {
            LeapDesigner x = Check.with(law);
            long first = x.start(0, -100000);
            long last = x.start(0, 100000) + 364 + x.leap(0, 100000) * x.has(0, 1);
            due("21 the first of '" + law + "'", -100000, x.date(0, first, 0));
            due("21 ahead of the first of '" + law + "'", NOTHING, x.date(0, first - 1, 0));
            due("21 the last of '" + law + "'", 100000, x.date(0, last, 0));
            due("21 the last of '" + law + "', its day", last - x.start(0, 100000), x.date(0, last, 1));
            due("21 behind the last of '" + law + "'", NOTHING, x.date(0, last + 1, 0));
            for (int y : new int[] {-99999, -1, 0, 1, 400, 100000}) {
                long start = x.start(0, y);
                due("21 the first day of " + y + " of '" + law + "'", y, x.date(0, start, 0));
                due("21 the first day of " + y + " of '" + law + "', which", 0, x.date(0, start, 1));
                due("21 the day ahead of " + y + " of '" + law + "'", y - 1, x.date(0, start - 1, 0));
                due("21 the day ahead of " + y + " of '" + law + "', which", 364 + x.leap(0, y - 1) * x.has(0, 1), x.date(0, start - 1, 1));
            }
        }
    }

    private static void dateMonths() {
        LeapDesigner x = Check.with(TWO, "year 5;every 2;months 1 1 1 1 1 leap 2;", "year 5;every 2;months 1 1 1 1 1;");
        date(x, 0, 6, 0, 6, 0, 6, 0);
        date(x, 0, 7, 0, 7, 1, 0, 1);
        date(x, 0, 12, 0, 12, 1, 5, 2);
        date(x, 0, 13, 1, 0, 0, 0, 3);
        date(x, 0, 16, 1, 3, 0, 3, 2);
        date(x, 0, 17, 1, 4, 1, 0, 3);
        date(x, 0, 22, 1, 9, 1, 5, 0);
        date(x, 0, 23, 2, 0, 0, 0, 1);
        // in a leap one MONTH 2 has two days
        int[] months = {0, 1, 2, 2, 3, 4, 0, 1, 2, 3, 4};
        int[] days = {0, 0, 0, 1, 0, 0, 0, 0, 0, 0, 0};
        int[] last = {0, 1, 2, 3, 4, 4, 0, 1, 2, 3, 4};
        for (int number = 0; number < 11; number++) {
            due("21 MONTH of " + number, months[number], x.date(1, number, 2));
            due("21 day of it of " + number, days[number], x.date(1, number, 3));
            due("21 MONTH of " + number + ", the last one leaps", last[number], x.date(2, number, 2));
            due("21 day of it of " + number + ", the last one leaps", number == 5 ? 1 : 0, x.date(2, number, 3));
        }
    }

    private static void dateWeekdays() {
        LeapDesigner x = Check.with(TWO, "week 1 at 0;", "week 10 at 9;", "");
        int[] four = {2, 3, 0, 1, 2, 3, 0, 1, 2};
        for (int number = -4; number <= 4; number++) {
            due("21 WEEKDAY of " + number, four[number + 4], x.date(0, number, 4));
            due("21 WEEKDAY of " + number + ", a week of a day", 0, x.date(1, number, 4));
            due("21 WEEKDAY of " + number + ", ten", number > 0 ? number - 1 : number + 9, x.date(2, number, 4));
            due("21 WEEKDAY of " + number + ", seven", number < 0 ? number + 7 : number, x.date(3, number, 4));
        }
    }

    private static void dateOthers() {
        LeapDesigner x = Check.with(TWO);
        for (int what : new int[] {-1, 5, Integer.MIN_VALUE, Integer.MAX_VALUE}) {
            due("21 others", NOTHING, x.date(0, 0, what));
            due("21 others, no number", NOTHING, x.date(0, LAST + 1, what));
        }
    }

    // ---- promise 22

    private static void datedBounds() {
        LeapDesigner x = Check.with(TWO);
        due("22 the last of the leap MONTH", 6, x.dated(0, 0, 0, 6));
        due("22 behind it", NOTHING, x.dated(0, 0, 0, 7));
        due("22 the last of it in a common one", 16, x.dated(0, 1, 0, 3));
        due("22 behind it in a common one", NOTHING, x.dated(0, 1, 0, 4));
        due("22 the first of the last MONTH", 7, x.dated(0, 0, 1, 0));
        due("22 the first of the last MONTH in a common one", 17, x.dated(0, 1, 1, 0));
        due("22 the last of the last MONTH", 12, x.dated(0, 0, 1, 5));
        due("22 behind the last of the last MONTH", NOTHING, x.dated(0, 0, 1, 6));
        due("22 MONTH 2 of 2", NOTHING, x.dated(0, 0, 2, 0));
        due("22 MONTH -1", NOTHING, x.dated(0, 0, -1, 0));
        due("22 day -1", NOTHING, x.dated(0, 0, 1, -1));
        due("22 the greatest day", NOTHING, x.dated(0, 0, 1, Integer.MAX_VALUE));
        due("22 the least day", NOTHING, x.dated(0, 0, 1, Integer.MIN_VALUE));
        due("22 the greatest MONTH", NOTHING, x.dated(0, 0, Integer.MAX_VALUE, 0));
        due("22 the least MONTH", NOTHING, x.dated(0, 0, Integer.MIN_VALUE, 0));
        due("22 the first of all", FIRST, x.dated(0, -100000, 0, 0));
        due("22 the last of all", LAST, x.dated(0, 100000, 1, 5));
        due("22 of no YEAR", NOTHING, x.dated(0, 100001, 0, 0));
        due("22 of no YEAR, ahead", NOTHING, x.dated(0, -100001, 1, 5));
    }

    // ---- promise 23

    /** The number of that day of that MONTH, its last day if it has none such. */
    private static void laterLastDay() {
        LeapDesigner x = Check.with(TWO, "year 1;extra 30;row 2 1;");
        due("23 the last that it has", 16, x.later(0, 0, 0, 3, 1));
        due("23 the first that it has not", 16, x.later(0, 0, 0, 4, 1));
        due("23 the last of the leap MONTH", 16, x.later(0, 0, 0, 6, 1));
        due("23 earlier", -7, x.later(0, 0, 0, 6, -1));
        due("23 to a leap one again", 29, x.later(0, 0, 0, 6, 2));
        due("23 to a leap one, not its last day", 26, x.later(0, 1, 0, 3, 1));
        due("23 a MONTH that is always as long", 22, x.later(0, 0, 1, 5, 1));
        due("23 no YEAR later", 6, x.later(0, 0, 0, 6, 0));
        due("23 of 31 days the last, to the only one", 32, x.later(1, 1, 0, 30, 1));
        due("23 of 31 days the first, to the only one", 32, x.later(1, 1, 0, 0, 1));
        due("23 from the first YEAR to the last", LAST, x.later(0, -100000, 1, 5, 200000));
        due("23 from the last YEAR to the first", FIRST, x.later(0, 100000, 0, 0, -200000));
    }

    private static void laterRefused() {
        LeapDesigner x = Check.with(TWO);
        due("23 no such day", NOTHING, x.later(0, 1, 0, 4, 0));
        due("23 no such day, but then", NOTHING, x.later(0, 1, 0, 4, 1));
        due("23 no such day at all", NOTHING, x.later(0, 0, 0, 7, 1));
        due("23 day -1", NOTHING, x.later(0, 0, 0, -1, 1));
        due("23 MONTH -1", NOTHING, x.later(0, 0, -1, 0, 1));
        due("23 MONTH 2", NOTHING, x.later(0, 0, 2, 0, 1));
        due("23 from no YEAR", NOTHING, x.later(0, 100001, 0, 0, -1));
        due("23 from no YEAR, ahead", NOTHING, x.later(0, -100001, 0, 0, 1));
        due("23 to no YEAR", NOTHING, x.later(0, 100000, 0, 0, 1));
        due("23 to no YEAR, ahead", NOTHING, x.later(0, -100000, 0, 0, -1));
        due("23 to no YEAR, far", NOTHING, x.later(0, 0, 0, 0, 100001));
        due("23 to no YEAR, far ahead", NOTHING, x.later(0, 0, 0, 0, -100001));
        due("23 round the numbers", NOTHING, x.later(0, 100000, 0, 0, Integer.MAX_VALUE));
        due("23 round the numbers, ahead", NOTHING, x.later(0, -100000, 0, 0, Integer.MIN_VALUE));
        due("23 round the numbers, from 0", NOTHING, x.later(0, 0, 0, 0, Integer.MIN_VALUE));
    }

    // ---- promise 24

    /** Day 0 of the one being day shift of the other one (-1000000 .. 1000000). */
    private static void takenShift() {
        LeapDesigner x = Check.with(TWO, HUNDRED);
        due("24 no shift", 0, x.taken(0, 99, 1, 0, 0));
        due("24 no shift, the next YEAR", 1, x.taken(0, 100, 1, 0, 0));
        due("24 day 0 is day 1", 1, x.taken(0, 99, 1, 1, 0));
        due("24 day 0 is day -1", 0, x.taken(0, 100, 1, -1, 0));
        due("24 the greatest", 10000, x.taken(0, 0, 1, 1000000, 0));
        due("24 too great", NOTHING, x.taken(0, 0, 1, 1000001, 0));
        due("24 the least", -10000, x.taken(0, 0, 1, -1000000, 0));
        due("24 too little", NOTHING, x.taken(0, 0, 1, -1000001, 0));
        due("24 far too great", NOTHING, x.taken(0, 0, 1, Integer.MAX_VALUE, 0));
        due("24 far too little", NOTHING, x.taken(0, 0, 1, Integer.MIN_VALUE, 0));
        due("24 WEEKDAY of the other one", 6, x.taken(0, 2, 1, 3, 4));
        due("24 WEEKDAY of the other one, ahead of 0", 9, x.taken(0, 0, 1, -2, 4));
        due("24 day of the other one's YEAR", 98, x.taken(0, 0, 1, -2, 1));
        due("24 to itself", 1, x.taken(0, 12, 0, 1, 0));
    }

    /** The number is one of the first DESIGN, and, shifted, one of the other. */
    private static void takenNumbers() {
        LeapDesigner x = Check.with(TWO, HUNDRED);
        due("24 the last of the first", 11500, x.taken(0, LAST, 1, 0, 0));
        due("24 behind the last of the first", NOTHING, x.taken(0, LAST + 1, 1, 0, 0));
        due("24 behind the last of the first, shifted", NOTHING, x.taken(0, LAST + 1, 1, -1, 0));
        due("24 the first of the first", -11500, x.taken(0, FIRST, 1, 0, 0));
        due("24 ahead of the first of the first", NOTHING, x.taken(0, FIRST - 1, 1, 0, 0));
        due("24 ahead of the first of the first, shifted", NOTHING, x.taken(0, FIRST - 1, 1, 1, 0));
        due("24 the last of the other", 100000, x.taken(1, LAST, 0, 0, 0));
        due("24 behind the last of the other", NOTHING, x.taken(1, LAST + 1, 0, 0, 0));
        due("24 behind the last of the other, shifted to it", 100000, x.taken(1, LAST + 1, 0, -1, 0));
        due("24 the last of the other, shifted away", NOTHING, x.taken(1, LAST, 0, 1, 0));
        due("24 to the last of the other by the least shift", 100000, x.taken(1, LAST + 1000000, 0, -1000000, 0));
        due("24 behind the last of the other by the least shift", NOTHING, x.taken(1, LAST + 1000001, 0, -1000000, 0));
        due("24 the first of the other", -100000, x.taken(1, FIRST, 0, 0, 0));
        due("24 ahead of the first of the other", NOTHING, x.taken(1, FIRST - 1, 0, 0, 0));
        due("24 to the first of the other by the greatest shift", -100000, x.taken(1, FIRST - 1000000, 0, 1000000, 0));
        due("24 ahead of the first of the other by the greatest shift", NOTHING, x.taken(1, FIRST - 1000001, 0, 1000000, 0));
        due("24 the greatest number", NOTHING, x.taken(0, Long.MAX_VALUE, 1, 1, 0));
        due("24 the least number", NOTHING, x.taken(0, Long.MIN_VALUE, 1, -1, 0));
    }

    private static void takenOthers() {
        LeapDesigner x = Check.with(TWO, HUNDRED);
        for (int what : new int[] {-1, 5, Integer.MIN_VALUE, Integer.MAX_VALUE}) {
            due("24 others", NOTHING, x.taken(0, 0, 1, 0, what));
        }
        long[] want = {0, 12, 0, 12, 3};
        for (int what = 0; what < 5; what++) {
            due("24 what " + what, want[what], x.taken(0, 10, 1, 2, what));
        }
    }
}
