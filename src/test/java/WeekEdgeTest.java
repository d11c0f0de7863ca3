/** Promises 31 to 38, a method a sentence that names an edge: gaps, weeks, weekdays, leap years one after the other. */
public final class WeekEdgeTest {
    private static final Check CHECK = new Check("WeekEdgeTest");
    private static final long NOTHING = -1000000000000000L;
    // Every YEAR begins on WEEKDAY 0.
    private static final String SEVEN = "year 7;";
    // So does this one, of 14 days in YEARS 0, 2, 4 ..; its MONTHS have 3 (then 10) and 4 days.
    private static final String FOURTEEN = "year 7;extra 7;every 2;months 3 4 leap 0;";
    private static final int[] FAR = {Integer.MIN_VALUE, Integer.MAX_VALUE};

    public static void main(String[] args) {
        gapNone();
        gapRound();
        gapOthers();
        evenByOne();
        weeksOfCycles();
        fallsYears();
        fallsDays();
        fallsInTurns();
        fallsWeekdays();
        nthBounds();
        nthFirstAndLast();
        nthRefused();
        nextBounds();
        nextNone();
        patternBits();
        patternRefused();
        busiestMonth();
        busiestDays();
        busiestYears();
        busiestRefused();
        CHECK.end();
    }

    private static void due(String call, long want, long got) {
        CHECK.due(call, want, got);
    }

    // ---- promise 31

    private static void gaps(String text, int least, int greatest, int times) {
        LeapDesigner x = Check.with(text);
        due("31 the least of '" + text + "'", least, x.gap(0, 0));
        due("31 the greatest of '" + text + "'", greatest, x.gap(0, 1));
        due("31 how many of '" + text + "'", times, x.gap(0, 2));
    }

    private static void gapNone() {
        gaps("", 0, 0, 0);
        gaps("even 0 of 5;", 0, 0, 0);
        gaps("even 0 of 1;", 0, 0, 0);
        gaps("row 1;", 0, 0, 0);
        gaps("row 400;", 0, 0, 0);
        // one LEAP YEAR: round to itself
        gaps("row 9 0;", 9, 9, 1);
        gaps("row 9 8;", 9, 9, 1);
        gaps("row 1 0;", 1, 1, 1);
        gaps("every 1;", 1, 1, 1);
        gaps("every 9999;", 9999, 9999, 1);
        gaps("every 1 not 2;", 2, 2, 1);
        gaps("even 1 of 1000 shift 999;", 1000, 1000, 1);
    }

    /** Of a CYCLE, going round. */
    private static void gapRound() {
        gaps("row 10 3 4;", 1, 9, 1);
        gaps("row 10 0 9;", 1, 9, 1);
        gaps("row 10 0 1;", 1, 9, 1);
        gaps("row 10 4 9;", 5, 5, 2);
        gaps("row 9 0 3 6;", 3, 3, 3);
        gaps("row 9 2 5 8;", 3, 3, 3);
        gaps("row 8 0 2 4;", 2, 4, 1);
        gaps("row 9 0 1 5;", 1, 4, 2);
        gaps("row 9 0 4 8;", 1, 4, 2);
        gaps("row 400 0 399;", 1, 399, 1);
        gaps("even 3 of 3;", 1, 1, 3);
        gaps("even 999 of 1000;", 1, 2, 1);
        gaps("every 4999 not 9998;", 9998, 9998, 1);
        gaps("every 1 not 9999;", 1, 2, 1);
    }

    private static void gapOthers() {
        LeapDesigner x = Check.with("every 4;", "");
        for (int what : new int[] {-1, 3, FAR[0], FAR[1]}) {
            due("31 others", -1, x.gap(0, what));
            due("31 others without LEAP YEARS", -1, x.gap(1, what));
        }
    }

    // ---- promise 32

    /** If its GAPS (going round) differ by one at most (with less than two LEAP YEARS in a CYCLE, too). */
    private static void evenByOne() {
        String[] texts = {"", "row 400;", "row 9 4;", "even 0 of 7;", "row 4 0 2;", "row 5 0 2;", "row 6 0 2;", "row 6 0 4;", "row 7 0 2 4;",
            "row 8 0 2 4;", "row 8 2 4 6;", "row 7 3 5;", "every 1;", "every 9999;", "every 4 not 8;", "every 2 not 6;", "every 1 not 9999;"};
        int[] want = {1, 1, 1, 1, 1, 1, 0, 0, 1, 0, 0, 0, 1, 1, 1, 0, 1};
        for (int i = 0; i < texts.length; i++) {
            due("32 '" + texts[i] + "'", want[i], Check.with(texts[i]).even(0));
        }
        for (int n = 1; n <= 40; n++) {
            for (int k = 0; k <= n; k++) {
                due("32 even " + k + " of " + n, 1, Check.with("even " + k + " of " + n + " shift " + (n - 1) + ";").even(0));
            }
        }
    }

    // ---- promise 33

    /** Of CYCLES the fewest by which whole weeks go by. */
    private static void weeksOfCycles() {
        String[] texts = {"year 7;", "year 8;", "year 14;", "year 1;week 10 at 9;", "year 5;week 10 at 0;", "year 10;week 10 at 0;",
            "year 4;week 10 at 0;", "week 1 at 0;", "every 4;week 1 at 0;", "year 1;even 1000 of 1000;week 10 at 0;", "every 9999;week 10 at 0;",
            "every 9999;", "year 6;extra 1;even 1 of 1;", "row 400;year 7;", "row 400;year 8;"};
        int[] want = {1, 7, 1, 10, 2, 1, 5, 1, 4, 1000, 5 * 9999, 7 * 9999, 1, 400, 2800};
        for (int i = 0; i < texts.length; i++) {
            due("33 '" + texts[i] + "'", want[i], Check.with(texts[i]).weeks(0));
        }
    }

    // ---- promise 34

    /** From one on, n of them (1 .. 5000); a YEAR behind those that can be, too. */
    private static void fallsYears() {
        LeapDesigner x = Check.with(SEVEN);
        due("34 n 1", 1, x.falls(0, 0, 1, 0, 0, 0));
        due("34 n 5000", 5000, x.falls(0, 0, 5000, 0, 0, 0));
        for (int n : new int[] {0, -1, 5001, FAR[0], FAR[1]}) {
            due("34 n " + n, -1, x.falls(0, 0, n, 0, 0, 0));
            due("34 n " + n + " from the last", -1, x.falls(0, 100000, n, 0, 0, 0));
        }
        due("34 from the first", 5000, x.falls(0, -100000, 5000, 0, 0, 0));
        due("34 ahead of the first", -1, x.falls(0, -100001, 5000, 0, 0, 0));
        due("34 to the last", 5000, x.falls(0, 95001, 5000, 0, 0, 0));
        due("34 behind the last", -1, x.falls(0, 95002, 5000, 0, 0, 0));
        due("34 the last", 1, x.falls(0, 100000, 1, 0, 0, 0));
        due("34 the last and one behind", -1, x.falls(0, 100000, 2, 0, 0, 0));
        due("34 from behind the last", -1, x.falls(0, 100001, 1, 0, 0, 0));
    }

    /** A day of a MONTH is there; a day above the longest one of that MONTH can't be. */
    private static void fallsDays() {
        LeapDesigner x = Check.with(FOURTEEN);
        due("34 the last that is always there", 10, x.falls(0, 0, 10, 0, 2, 2));
        due("34 the first that is there in leap ones", 5, x.falls(0, 0, 10, 0, 3, 3));
        due("34 the last that is there in leap ones", 5, x.falls(0, 0, 10, 0, 9, 2));
        due("34 it is not there in a common one", 0, x.falls(0, 1, 1, 0, 9, 2));
        due("34 above the longest", -1, x.falls(0, 0, 10, 0, 10, 3));
        due("34 above the longest, in a common one", -1, x.falls(0, 1, 1, 0, 10, 3));
        due("34 the last of the other MONTH", 10, x.falls(0, 0, 10, 1, 3, 6));
        due("34 above the last of the other MONTH", -1, x.falls(0, 0, 10, 1, 4, 0));
        due("34 below 0", -1, x.falls(0, 0, 10, 0, -1, 6));
        due("34 far above", -1, x.falls(0, 0, 10, 0, FAR[1], 0));
        due("34 far below", -1, x.falls(0, 0, 10, 0, FAR[0], 0));
        for (int month : new int[] {-1, 2, FAR[0], FAR[1]}) {
            due("34 MONTH " + month, -1, x.falls(0, 0, 10, month, 0, 0));
        }
    }

    /** MONTH 1 begins on days 7, 17, 27, 40, 50, 60 and on 73; behind the leap MONTH by 3 days more in YEARS 0, 3, 6. */
    private static void fallsInTurns() {
        LeapDesigner x = Check.with("year 10;extra 3;row 3 0;months 4 6 leap 0;week 4 at 2;");
        // WEEKDAYS of YEARS 0 .. 5: 1, 3, 1, 2, 0, 2
        int[][] want = {{1, 2, 2, 1}, {1, 1, 2, 1}, {1, 1, 2, 0}, {1, 0, 2, 0}};
        for (int from = 0; from < want.length; from++) {
            for (int weekday = 0; weekday < 4; weekday++) {
                due("34 from " + from + " to 5 on " + weekday, want[from][weekday], x.falls(0, from, 6 - from, 1, 0, weekday));
            }
        }
        // of YEARS -3 .. -1, of 13, 10 and 10 days: -26, -16, -6, on WEEKDAYS 0, 2, 0
        due("34 ahead of 0 on 0", 2, x.falls(0, -3, 3, 1, 0, 0));
        due("34 ahead of 0 on 1", 0, x.falls(0, -3, 3, 1, 0, 1));
        due("34 ahead of 0 on 2", 1, x.falls(0, -3, 3, 1, 0, 2));
    }

    private static void fallsWeekdays() {
        LeapDesigner x = Check.with(SEVEN, "week 1 at 0;", "year 10;week 10 at 9;");
        due("34 the last WEEKDAY", 0, x.falls(0, 0, 10, 0, 0, 6));
        due("34 the last WEEKDAY, its day", 10, x.falls(0, 0, 10, 0, 6, 6));
        due("34 WEEKDAY 7", -1, x.falls(0, 0, 10, 0, 0, 7));
        due("34 WEEKDAY -1", -1, x.falls(0, 0, 10, 0, 0, -1));
        due("34 the only WEEKDAY", 10, x.falls(1, 0, 10, 0, 364, 0));
        due("34 WEEKDAY 1 of 1", -1, x.falls(1, 0, 10, 0, 0, 1));
        due("34 WEEKDAY 9 of 10", 10, x.falls(2, 0, 10, 0, 0, 9));
        due("34 WEEKDAY 9 of 10, ahead of 0", 10, x.falls(2, -10, 10, 0, 0, 9));
        due("34 WEEKDAY 10 of 10", -1, x.falls(2, 0, 10, 0, 0, 10));
        for (int weekday : FAR) {
            due("34 WEEKDAY " + weekday, -1, x.falls(0, 0, 10, 0, 0, weekday));
        }
    }

    // ---- promise 35

    /** The k-th (1 .. 200). */
    private static void nthBounds() {
        LeapDesigner x = Check.with("year 999;week 1 at 0;", "year 200;week 1 at 0;", "year 199;week 1 at 0;");
        due("35 the first", 0, x.nth(0, 0, 0, 0, 1, false));
        due("35 the last", 998, x.nth(0, 0, 0, 0, 1, true));
        due("35 the 200th", 199, x.nth(0, 0, 0, 0, 200, false));
        due("35 the 200th from the end", 799, x.nth(0, 0, 0, 0, 200, true));
        due("35 of 200 the 200th", 199, x.nth(1, 0, 0, 0, 200, false));
        due("35 of 200 the 200th from the end", 0, x.nth(1, 0, 0, 0, 200, true));
        due("35 of 199 the 199th", 198, x.nth(2, 0, 0, 0, 199, false));
        due("35 of 199 the 200th", NOTHING, x.nth(2, 0, 0, 0, 200, false));
        due("35 of 199 the 200th from the end", NOTHING, x.nth(2, 0, 0, 0, 200, true));
        for (int k : new int[] {0, -1, 201, FAR[0], FAR[1]}) {
            due("35 k " + k, NOTHING, x.nth(0, 0, 0, 0, k, false));
            due("35 k " + k + " from the end", NOTHING, x.nth(0, 0, 0, 0, k, true));
        }
    }

    private static void nthFirstAndLast() {
        LeapDesigner x = Check.with("year 21;months 10 11;", "year 10;extra 3;every 2;months 4 6 leap 0;week 4 at 2;");
        due("35 on the first day", 0, x.nth(0, 0, 0, 0, 1, false));
        due("35 on the last day", 9, x.nth(0, 0, 0, 2, 1, true));
        due("35 on the last day, second", 9, x.nth(0, 0, 0, 2, 2, false));
        due("35 on the first day, second from the end", 0, x.nth(0, 0, 0, 0, 2, true));
        due("35 once", 3, x.nth(0, 0, 0, 3, 1, false));
        due("35 once, from the end", 3, x.nth(0, 0, 0, 3, 1, true));
        due("35 no second", NOTHING, x.nth(0, 0, 0, 3, 2, false));
        due("35 no second from the end", NOTHING, x.nth(0, 0, 0, 3, 2, true));
        due("35 no third", NOTHING, x.nth(0, 0, 0, 2, 3, false));
        due("35 no third from the end", NOTHING, x.nth(0, 0, 0, 0, 3, true));
        due("35 the second MONTH's first day", 10, x.nth(0, 0, 1, 3, 1, false));
        due("35 the second MONTH's last day", 20, x.nth(0, 0, 1, 6, 1, true));
        due("35 not behind it", NOTHING, x.nth(0, 0, 1, 6, 3, false));
        due("35 not ahead of it", NOTHING, x.nth(0, 0, 1, 3, 3, true));
        // in YEAR 0 MONTH 0 has 7 days from WEEKDAY 2 on, in YEAR 1 4 days, 13 .. 16, from WEEKDAY 3 on
        due("35 the leap MONTH's last day", 6, x.nth(1, 0, 0, 0, 1, true));
        due("35 the leap MONTH's last day, second", 6, x.nth(1, 0, 0, 0, 2, false));
        due("35 in a common one", 16, x.nth(1, 1, 0, 2, 1, true));
        due("35 in a common one, no second", NOTHING, x.nth(1, 1, 0, 3, 2, false));
        due("35 ahead of YEAR 0", -10, x.nth(1, -1, 0, 0, 1, false));
        due("35 of the last YEAR", 1150012, x.nth(1, 100000, 1, 2, 1, true));
        due("35 of the first YEAR", -1150000, x.nth(1, -100000, 0, 2, 1, false));
    }

    private static void nthRefused() {
        LeapDesigner x = Check.with("year 21;months 10 11;");
        for (int weekday : new int[] {-1, 7, FAR[0], FAR[1]}) {
            due("35 WEEKDAY " + weekday, NOTHING, x.nth(0, 0, 0, weekday, 1, false));
            due("35 WEEKDAY " + weekday + " from the end", NOTHING, x.nth(0, 0, 0, weekday, 1, true));
        }
        for (int month : new int[] {-1, 2, FAR[0], FAR[1]}) {
            due("35 MONTH " + month, NOTHING, x.nth(0, 0, month, 0, 1, false));
        }
        due("35 the last WEEKDAY", 6, x.nth(0, 0, 0, 6, 1, false));
    }

    // ---- promise 36

    /** The k-th LEAP YEAR behind a YEAR (k 1 .. 1000), or ahead of it (-1 .. -1000). */
    private static void nextBounds() {
        LeapDesigner x = Check.with("every 1;", "every 9999;", "row 400 399;", "even 1 of 4 shift 3;");
        due("36 1", 1, x.next(0, 0, 1));
        due("36 -1", -1, x.next(0, 0, -1));
        due("36 1000", 1000, x.next(0, 0, 1000));
        due("36 -1000", -1000, x.next(0, 0, -1000));
        for (int k : new int[] {0, 1001, -1001, FAR[0], FAR[1]}) {
            due("36 k " + k, NOTHING, x.next(0, 0, k));
        }
        due("36 rare", 9999, x.next(1, 0, 1));
        due("36 rare, from the one ahead", 9999, x.next(1, 9998, 1));
        due("36 rare, from itself", 19998, x.next(1, 9999, 1));
        due("36 rare, ahead of itself", 0, x.next(1, 9999, -1));
        due("36 rare, ahead of the one behind", 9999, x.next(1, 10000, -1));
        due("36 row", 399, x.next(2, 0, 1));
        due("36 row, ahead", -1, x.next(2, 0, -1));
        due("36 row, over -1", 399, x.next(2, -1, 1));
        due("36 even", 1, x.next(3, 0, 1));
        due("36 even, ahead", -3, x.next(3, 0, -1));
        due("36 even, ahead of itself", -3, x.next(3, 1, -1));
    }

    /** NOTHING when there is none such among YEARS that can be. */
    private static void nextNone() {
        LeapDesigner x = Check.with("every 1;", "every 9999;", "", "row 400;", "even 0 of 9;");
        due("36 the last YEAR", 100000, x.next(0, 99999, 1));
        due("36 behind the last YEAR", NOTHING, x.next(0, 100000, 1));
        due("36 the last YEAR by 1000", 100000, x.next(0, 99000, 1000));
        due("36 behind the last YEAR by 1000", NOTHING, x.next(0, 99001, 1000));
        due("36 from the last YEAR", 99999, x.next(0, 100000, -1));
        due("36 the first YEAR", -100000, x.next(0, -99999, -1));
        due("36 ahead of the first YEAR", NOTHING, x.next(0, -100000, -1));
        due("36 the first YEAR by 1000", -100000, x.next(0, -99000, -1000));
        due("36 ahead of the first YEAR by 1000", NOTHING, x.next(0, -99001, -1000));
        due("36 far behind the last YEAR", NOTHING, x.next(0, 99999, 1000));
        due("36 far ahead of the first YEAR", NOTHING, x.next(0, -99999, -1000));
        due("36 from the first YEAR", -99999, x.next(0, -100000, 1));
        due("36 rare, the last", 99990, x.next(1, 99989, 1));
        due("36 rare, behind the last", NOTHING, x.next(1, 99990, 1));
        due("36 rare, the first", -99990, x.next(1, -99989, -1));
        due("36 rare, ahead of the first", NOTHING, x.next(1, -99990, -1));
        due("36 rare, all", 99990, x.next(1, -100000, 21));
        due("36 rare, all and one", NOTHING, x.next(1, -100000, 22));
        due("36 rare, all back", -99990, x.next(1, 100000, -21));
        due("36 rare, all and one back", NOTHING, x.next(1, 100000, -22));
        for (int s = 2; s <= 4; s++) {
            due("36 none at all", NOTHING, x.next(s, 0, 1));
            due("36 none at all, ahead", NOTHING, x.next(s, 0, -1));
            due("36 none at all, from the first", NOTHING, x.next(s, -100000, 1));
            due("36 none at all, from the last", NOTHING, x.next(s, 100000, -1));
        }
    }

    // ---- promise 37

    /** Of n YEARS (1 .. 62) from one on which are LEAP, as bits (the first YEAR's is 1). */
    private static void patternBits() {
        LeapDesigner x = Check.with("every 1;", "row 400 0;", "row 400 61;", "row 400 62;", "");
        due("37 one", 1, x.pattern(0, 0, 1));
        due("37 one that is none", 0, x.pattern(4, 0, 1));
        due("37 62", (1L << 62) - 1, x.pattern(0, 0, 62));
        due("37 the first", 1, x.pattern(1, 0, 62));
        due("37 the 62nd", 1L << 61, x.pattern(2, 0, 62));
        due("37 the 32nd", 1L << 31, x.pattern(2, 30, 62));
        due("37 the 33rd", 1L << 32, x.pattern(2, 29, 62));
        due("37 the 62nd of 61", 0, x.pattern(2, 0, 61));
        due("37 the 63rd", 0, x.pattern(3, 0, 62));
        due("37 none", 0, x.pattern(4, 0, 62));
        due("37 over 0", 2, x.pattern(1, -1, 3));
        due("37 to the last YEAR", (1L << 62) - 1, x.pattern(0, 99939, 62));
        due("37 from the first YEAR", (1L << 62) - 1, x.pattern(0, -100000, 62));
    }

    private static void patternRefused() {
        LeapDesigner x = Check.with("every 1;");
        for (int n : new int[] {0, -1, 63, 64, 5000, FAR[0], FAR[1]}) {
            due("37 n " + n, NOTHING, x.pattern(0, 0, n));
        }
        due("37 behind the last YEAR", NOTHING, x.pattern(0, 99940, 62));
        due("37 the last YEAR", 1, x.pattern(0, 100000, 1));
        due("37 the last YEAR and one behind", NOTHING, x.pattern(0, 100000, 2));
        due("37 from behind the last YEAR", NOTHING, x.pattern(0, 100001, 1));
        due("37 from ahead of the first YEAR", NOTHING, x.pattern(0, -100001, 2));
    }

    // ---- promise 38

    /** The MONTH most often, of like ones the first (NONE: in none). */
    private static void busiestMonth() {
        LeapDesigner x = Check.with("year 14;months 7 7;", "year 14;months 1 13;", FOURTEEN, "year 21;extra 7;every 2;months 8 6 7;", SEVEN);
        due("38 of like ones the first", 0, x.busiest(0, 0, 10, 0, 0, 0));
        due("38 of like ones, how often", 10, x.busiest(0, 0, 10, 0, 0, 1));
        due("38 the only one that has it", 1, x.busiest(1, 0, 10, 1, 2, 0));
        due("38 the only one that has it, how often", 10, x.busiest(1, 0, 10, 1, 2, 1));
        due("38 in leap ones alone", 0, x.busiest(2, 0, 10, 9, 2, 0));
        due("38 in leap ones alone, how often", 5, x.busiest(2, 0, 10, 9, 2, 1));
        // MONTHS begin on WEEKDAYS 0, 1, 0
        due("38 the first and the last", 0, x.busiest(3, 0, 10, 0, 0, 0));
        due("38 the one between", 1, x.busiest(3, 0, 10, 0, 1, 0));
        // day 7 is in MONTH 0 always, in MONTH 2 in leap ones, on WEEKDAY 0
        due("38 the one more often", 0, x.busiest(3, 0, 10, 7, 0, 0));
        due("38 the one more often, how often", 10, x.busiest(3, 0, 10, 7, 0, 1));
        due("38 in none", -1, x.busiest(4, 0, 10, 0, 1, 0));
        due("38 in none, how often", 0, x.busiest(4, 0, 10, 0, 1, 1));
        due("38 once", 0, x.busiest(4, 0, 1, 0, 0, 0));
        // day 5 is in MONTH 2 in leap ones alone, three of ten, on WEEKDAY 0
        LeapDesigner y = Check.with("year 14;extra 7;row 10 1 4 7;months 4 5 5;", "year 14;extra 7;row 10 1 4 7;months 3 5 6 leap 1;");
        due("38 the last one alone", 2, y.busiest(0, 0, 10, 5, 0, 0));
        due("38 the last one alone, how often", 3, y.busiest(0, 0, 10, 5, 0, 1));
        // day 5 is in MONTH 1 in three of ten, in MONTH 2 always, on WEEKDAYS 1 and 6
        due("38 each on its WEEKDAY", 1, y.busiest(1, 0, 10, 5, 1, 0));
        due("38 each on its WEEKDAY, the other", 2, y.busiest(1, 0, 10, 5, 6, 0));
    }

    /** Day 0 .. 99. */
    private static void busiestDays() {
        LeapDesigner x = Check.with("year 200;months 100 100;week 1 at 0;", "year 200;months 99 101;week 1 at 0;", SEVEN);
        due("38 day 99", 0, x.busiest(0, 0, 10, 99, 0, 0));
        due("38 day 99, how often", 10, x.busiest(0, 0, 10, 99, 0, 1));
        due("38 day 99 of the longer one", 1, x.busiest(1, 0, 10, 99, 0, 0));
        due("38 day 0", 0, x.busiest(1, 0, 10, 0, 0, 0));
        LeapDesigner y = Check.with(FOURTEEN);
        due("38 the longest one's last day", 5, y.busiest(0, 0, 10, 9, 2, 1));
        for (int day = 10; day <= 13; day++) {
            for (int weekday = 0; weekday < 7; weekday++) {
                due("38 day " + day + ", behind the longest one's last", 0, y.busiest(0, 0, 10, day, weekday, 1));
                due("38 day " + day + ", behind the longest one's last, none", -1, y.busiest(0, 0, 10, day, weekday, 0));
            }
        }
        due("38 a common one's last day", 10, y.busiest(0, 1, 10, 2, 2, 1));
        due("38 behind a common one's last day", 0, y.busiest(0, 1, 1, 3, 3, 1));
        due("38 a day that no MONTH has", -1, x.busiest(2, 0, 10, 99, 0, 0));
        due("38 a day that no MONTH has, how often", 0, x.busiest(2, 0, 10, 99, 0, 1));
        for (int day : new int[] {-1, 100, FAR[0], FAR[1]}) {
            due("38 day " + day, NOTHING, x.busiest(1, 0, 10, day, 0, 0));
            due("38 day " + day + ", how often", NOTHING, x.busiest(1, 0, 10, day, 0, 1));
        }
    }

    private static void busiestYears() {
        LeapDesigner x = Check.with(SEVEN);
        due("38 n 1", 1, x.busiest(0, 0, 1, 0, 0, 1));
        due("38 n 5000", 5000, x.busiest(0, 0, 5000, 0, 0, 1));
        for (int n : new int[] {0, -1, 5001, FAR[0], FAR[1]}) {
            due("38 n " + n, NOTHING, x.busiest(0, 0, n, 0, 0, 0));
        }
        due("38 from the first", 5000, x.busiest(0, -100000, 5000, 0, 0, 1));
        due("38 ahead of the first", NOTHING, x.busiest(0, -100001, 5000, 0, 0, 1));
        due("38 to the last", 5000, x.busiest(0, 95001, 5000, 0, 0, 1));
        due("38 behind the last", NOTHING, x.busiest(0, 95002, 5000, 0, 0, 1));
        due("38 the last", 0, x.busiest(0, 100000, 1, 0, 0, 0));
        due("38 the last and one behind", NOTHING, x.busiest(0, 100000, 2, 0, 0, 0));
    }

    private static void busiestRefused() {
        LeapDesigner x = Check.with(SEVEN, "year 10;week 10 at 9;");
        for (int weekday : new int[] {-1, 7, FAR[0], FAR[1]}) {
            due("38 WEEKDAY " + weekday, NOTHING, x.busiest(0, 0, 10, 0, weekday, 0));
            due("38 WEEKDAY " + weekday + ", how often", NOTHING, x.busiest(0, 0, 10, 0, weekday, 1));
        }
        due("38 the last WEEKDAY", 10, x.busiest(0, 0, 10, 6, 6, 1));
        due("38 WEEKDAY 9 of 10", 10, x.busiest(1, 0, 10, 0, 9, 1));
        due("38 WEEKDAY 10 of 10", NOTHING, x.busiest(1, 0, 10, 0, 10, 1));
        for (int what : new int[] {-1, 2, FAR[0], FAR[1]}) {
            due("38 others", NOTHING, x.busiest(0, 0, 10, 0, 0, what));
        }
    }
}
