/** Promises 39 to 45, a method a sentence that names an edge: new moons, and days that are joined. */
public final class MoonJoinEdgeTest {
    private static final Check CHECK = new Check("MoonJoinEdgeTest");
    private static final long NOTHING = -1000000000000000L;
    private static final int[] FAR = {Integer.MIN_VALUE, Integer.MAX_VALUE};
    // Numbers of days -1000000 .. 1000009, and -2000000 .. 2000019.
    private static final String TEN = "year 10;";
    private static final String TWENTY = "year 20;week 10 at 9;";
    // MONTH 0 has 3 days, 10 in YEARS 0, 2, 4 ..; MONTH 1 has 4.
    private static final String FOURTEEN = "year 7;extra 7;every 2;months 3 4 leap 0;";
    private static final int[][] MOONS = {{2, 1}, {1000, 1}, {200000, 100000}, {10000000, 10000}, {10000000, 100000}, {5, 2}, {10000, 10}};
    private static final int[][] NO_MOONS = {{1, 1}, {3, 2}, {199999, 100000}, {1001, 1}, {10001, 10}, {10000000, 9999}, {10000001, 100000},
        {1000010, 100001}, {30, 0}, {30, -1}, {0, 1}, {0, 0}, {-30, 1}, {-30, -1}, {1, 0}, {FAR[0], FAR[0]}, {FAR[1], FAR[1]},
        {FAR[1], 1}, {FAR[0], 1}, {30, FAR[1]}, {30, FAR[0]}, {FAR[1], 100000}};

    public static void main(String[] args) {
        moonsBounds();
        moonsInYear();
        moonsCutDown();
        moonsFar();
        moonsOthers();
        ageDays();
        ageNumbers();
        meetsYears();
        meetsDays();
        meetsRefused();
        joinNumbers();
        joinDates();
        joinRefused();
        joinAsTheyAre();
        joinedSeam();
        joinedEnds();
        joinedSecondEnds();
        joinedOthers();
        joinedDayBelowZero();
        oftenSeam();
        oftenEnds();
        oftenNoDate();
        spanFirstDay();
        spanEnds();
        spanNone();
        CHECK.end();
    }

    private static void due(String call, long want, long got) {
        CHECK.due(call, want, got);
    }

    // ---- promise 39, and what a new moon is

    /** P 1 .. 10000000, q 1 .. 100000, p by q 2 .. 1000. */
    private static void moonsBounds() {
        LeapDesigner x = Check.with(TEN);
        for (int[] moon : MOONS) {
            String call = moon[0] + " by " + moon[1];
            due("39 " + call, 0, x.moons(0, 0, moon[0], moon[1], 1));
            due("40 " + call, 0, x.age(0, 0, moon[0], moon[1]));
            due("41 " + call, 0, x.meets(0, 0, 1, 0, 0, moon[0], moon[1]));
        }
        for (int[] moon : NO_MOONS) {
            String call = moon[0] + " by " + moon[1];
            for (int what = 0; what <= 2; what++) {
                due("39 " + call, NOTHING, x.moons(0, 0, moon[0], moon[1], what));
            }
            due("40 " + call, NOTHING, x.age(0, 0, moon[0], moon[1]));
            due("41 " + call, NOTHING, x.meets(0, 0, 1, 0, 0, moon[0], moon[1]));
        }
    }

    private static void moons(String text, int year, int p, int q, long... want) {
        LeapDesigner x = Check.with(text);
        for (int what = 0; what <= 2; what++) {
            due("39 what " + what + " of YEAR " + year + ", " + p + " by " + q, want[what], x.moons(0, year, p, q, what));
        }
    }

    private static void moonsInYear() {
        moons(TEN, 0, 2, 1, 5, 0, 8);
        moons(TEN, 1, 2, 1, 5, 0, 8);
        moons(TEN, -1, 2, 1, 5, 0, 8);
        moons(TEN, 0, 10, 1, 1, 0, 0);
        moons(TEN, 1, 10, 1, 1, 0, 0);
        moons(TEN, -1, 10, 1, 1, 0, 0);
        // none
        moons(TEN, 1, 1000, 1, 0, -1, -1);
        moons(TEN, -1, 1000, 1, 0, -1, -1);
        moons(TEN, 99, 1000, 1, 0, -1, -1);
        moons(TEN, 100, 1000, 1, 1, 0, 0);
        moons(TEN, -100, 1000, 1, 1, 0, 0);
        // on the last day
        moons(TEN, 0, 9, 1, 2, 0, 9);
        moons(TEN, 1, 19, 1, 1, 9, 9);
        moons(TEN, -1, 11, 1, 0, -1, -1);
        moons(TEN, -2, 11, 1, 1, 9, 9);
        // a leap YEAR's last days are its own
        moons(FOURTEEN, 0, 13, 1, 2, 0, 13);
        moons(FOURTEEN, 1, 20, 1, 1, 6, 6);
        moons("year 1;", 0, 2, 1, 1, 0, 0);
        moons("year 1;", 1, 2, 1, 0, -1, -1);
    }

    /** In the day in which k times p by q days have gone by (k any whole number). */
    private static void moonsCutDown() {
        // 0, 2 and a half, 5, 7 and a half, 10
        moons(TEN, 0, 5, 2, 4, 0, 7);
        moons(TEN, 1, 5, 2, 4, 0, 7);
        // -10, -7 and a half, -5, -2 and a half: days -10, -8, -5, -3
        moons(TEN, -1, 5, 2, 4, 0, 7);
        // 9 and 99 of 100, 19 and 98 of 100; -9 and 99 of 100
        moons(TEN, 0, 999, 100, 2, 0, 9);
        moons(TEN, 1, 999, 100, 1, 9, 9);
        moons(TEN, -1, 999, 100, 1, 0, 0);
        // 10 and 1 of 100; -10 and 1 of 100 is in day -11
        moons(TEN, 0, 1001, 100, 1, 0, 0);
        moons(TEN, 1, 1001, 100, 1, 0, 0);
        moons(TEN, -1, 1001, 100, 0, -1, -1);
        moons(TEN, -2, 1001, 100, 1, 9, 9);
    }

    private static void moonsFar() {
        moons(TEN, 100000, 2, 1, 5, 0, 8);
        moons(TEN, -100000, 2, 1, 5, 0, 8);
        String longest = "year 999;extra 30;every 1;";
        moons(longest, 100000, 10000000, 100000, 11, 0, 1000);
        moons(longest, -100000, 10000000, 100000, 11, 0, 1000);
        moons(longest, 100000, 200000, 100000, 515, 0, 1028);
        moons(longest, 100000, 1000, 1, 2, 0, 1000);
        // 999 times 103003 is 102899997, three days short of 100000 times 1029
        moons(longest, 100000, 999, 1, 1, 996, 996);
        moons(longest, -100000, 999, 1, 2, 3, 1002);
    }

    private static void moonsOthers() {
        LeapDesigner x = Check.with(TEN);
        for (int what : new int[] {-1, 3, FAR[0], FAR[1]}) {
            due("39 others", NOTHING, x.moons(0, 0, 2, 1, what));
            due("39 others without moons", NOTHING, x.moons(0, 1, 1000, 1, what));
        }
    }

    // ---- promise 40

    /** How many days ago (0: this day). */
    private static void ageDays() {
        LeapDesigner x = Check.with(TEN);
        int[][] want = {{0, 0}, {1, 1}, {9, 9}, {10, 0}, {11, 1}, {-1, 9}, {-10, 0}, {-11, 9}};
        for (int[] pair : want) {
            due("40 day " + pair[0] + ", 10 by 1", pair[1], x.age(0, pair[0], 10, 1));
        }
        int[][] halves = {{0, 0}, {1, 1}, {2, 0}, {3, 1}, {4, 2}, {5, 0}, {6, 1}, {7, 0}, {-1, 2}, {-2, 1}, {-3, 0}, {-4, 1}, {-5, 0}, {-6, 2}};
        for (int[] pair : halves) {
            due("40 day " + pair[0] + ", 5 by 2", pair[1], x.age(0, pair[0], 5, 2));
        }
        due("40 the oldest", 999, x.age(0, 999, 1000, 1));
        due("40 the oldest, ahead of 0", 999, x.age(0, -1, 1000, 1));
        due("40 the next", 0, x.age(0, 1000, 1000, 1));
    }

    private static void ageNumbers() {
        LeapDesigner x = Check.with(TEN);
        due("40 the last number", 9, x.age(0, 1000009, 10, 1));
        due("40 behind the last number", NOTHING, x.age(0, 1000010, 10, 1));
        due("40 the first number", 0, x.age(0, -1000000, 10, 1));
        // k -1002 is at -1000998
        due("40 the first number, a moon ahead of it", 998, x.age(0, -1000000, 999, 1));
        due("40 ahead of the first number", NOTHING, x.age(0, -1000001, 10, 1));
        due("40 the greatest", NOTHING, x.age(0, Long.MAX_VALUE, 10, 1));
        due("40 the least", NOTHING, x.age(0, Long.MIN_VALUE, 10, 1));
    }

    // ---- promise 41

    /** In n YEARS (1 .. 5000) from one on the first; in none. */
    private static void meetsYears() {
        LeapDesigner x = Check.with(TEN);
        due("41 n 1", 0, x.meets(0, 0, 1, 0, 0, 1000, 1));
        due("41 in none of 1", NOTHING, x.meets(0, 1, 1, 0, 0, 1000, 1));
        due("41 in none of 99", NOTHING, x.meets(0, 1, 99, 0, 0, 1000, 1));
        due("41 in the last of 100", 100, x.meets(0, 1, 100, 0, 0, 1000, 1));
        due("41 the first of two", 100, x.meets(0, 1, 300, 0, 0, 1000, 1));
        due("41 in none of 99, ahead of 0", NOTHING, x.meets(0, -99, 99, 0, 0, 1000, 1));
        due("41 in the last of 100, ahead of 0", 0, x.meets(0, -99, 100, 0, 0, 1000, 1));
        due("41 n 5000", 0, x.meets(0, 0, 5000, 0, 0, 1000, 1));
        due("41 from the first", -100000, x.meets(0, -100000, 5000, 0, 0, 1000, 1));
        due("41 to the last", 95100, x.meets(0, 95001, 5000, 0, 0, 1000, 1));
        due("41 behind the last", NOTHING, x.meets(0, 95002, 5000, 0, 0, 1000, 1));
        due("41 the last", 100000, x.meets(0, 100000, 1, 0, 0, 1000, 1));
        due("41 the last and one behind", NOTHING, x.meets(0, 100000, 2, 0, 0, 1000, 1));
        due("41 from ahead of the first", NOTHING, x.meets(0, -100001, 2, 0, 0, 1000, 1));
        for (int n : new int[] {0, -1, 5001, FAR[0], FAR[1]}) {
            due("41 n " + n, NOTHING, x.meets(0, 0, n, 0, 0, 1000, 1));
        }
    }

    private static void meetsDays() {
        LeapDesigner x = Check.with(FOURTEEN, TEN);
        due("41 the last day of the leap MONTH", 0, x.meets(0, 0, 1, 0, 9, 9, 1));
        due("41 above the longest", NOTHING, x.meets(0, 0, 1, 0, 10, 10, 1));
        due("41 not there in a common one", NOTHING, x.meets(0, 1, 1, 0, 9, 2, 1));
        due("41 there in the next", 2, x.meets(0, 1, 2, 0, 9, 2, 1));
        due("41 the last day of the last MONTH", 0, x.meets(0, 0, 1, 1, 3, 13, 1));
        due("41 above the last day of the last MONTH", NOTHING, x.meets(0, 0, 1, 1, 4, 2, 1));
        due("41 a moon in the middle of the day", 0, x.meets(1, 0, 1, 0, 7, 5, 2));
        due("41 a moon in the middle of the day, ahead of 0", -1, x.meets(1, -1, 1, 0, 7, 5, 2));
        due("41 beside it", NOTHING, x.meets(1, 0, 1, 0, 6, 5, 2));
        due("41 beside it, behind", NOTHING, x.meets(1, 0, 1, 0, 8, 5, 2));
    }

    private static void meetsRefused() {
        LeapDesigner x = Check.with(FOURTEEN);
        for (int month : new int[] {-1, 2, FAR[0], FAR[1]}) {
            due("41 MONTH " + month, NOTHING, x.meets(0, 0, 10, month, 0, 2, 1));
        }
        for (int day : new int[] {-1, FAR[0], FAR[1]}) {
            due("41 day " + day, NOTHING, x.meets(0, 0, 10, 0, day, 2, 1));
        }
    }

    // ---- promise 42

    private static void joinNumbers() {
        LeapDesigner x = Check.with(TEN, TWENTY);
        due("42 the first number", 1, x.join(0, -1000000, 1, 0, 0, 0));
        due("42 the first number is the second's", 0, x.joined(-1000000, 0));
        due("42 the last number", 1, x.join(0, 1000009, 1, 7, 0, 0));
        due("42 the last number is the second's", 7, x.joined(1000009, 0));
        due("42 the one ahead is the first's", 100000, x.joined(1000008, 0));
        for (long number : new long[] {-1000001, 1000010, Long.MIN_VALUE, Long.MAX_VALUE, 1L << 32}) {
            due("42 number " + number, -2, x.join(0, number, 1, 0, 0, 0));
        }
        due("42 what was stays", 7, x.joined(1000009, 0));
    }

    private static void joinDates() {
        LeapDesigner x = Check.with(TEN, FOURTEEN);
        int[][] taken = {{-100000, 0, 0}, {100000, 0, 0}, {100000, 1, 3}, {0, 0, 9}, {1, 0, 2}, {1, 1, 3}};
        for (int[] date : taken) {
            due("42 a day of a MONTH of a YEAR", 1, x.join(0, 5, 1, date[0], date[1], date[2]));
            due("42 that YEAR", date[0], x.joined(5, 0));
            due("42 that MONTH", date[1], x.joined(5, 2));
            due("42 that day", date[2], x.joined(5, 3));
        }
        int[][] refused = {{-100001, 0, 0}, {100001, 0, 0}, {0, -1, 0}, {0, 2, 0}, {0, 0, -1}, {0, 0, 10}, {1, 0, 3}, {1, 1, 4}, {0, 1, 4},
            {FAR[0], 0, 0}, {FAR[1], 0, 0}, {0, FAR[0], 0}, {0, FAR[1], 0}, {0, 0, FAR[0]}, {0, 0, FAR[1]}};
        for (int[] date : refused) {
            due("42 no day of it", -2, x.join(0, 5, 1, date[0], date[1], date[2]));
        }
        due("42 what was stays", 1, x.joined(5, 0));
    }

    private static void joinRefused() {
        LeapDesigner x = Check.with(TEN);
        due("42 not there", -2, x.join(0, 0, 1, 0, 0, 0));
        due("42 nothing is JOINED then", NOTHING, x.joined(0, 0));
        due("42 nothing is JOINED then, often", -1, x.often(0, 0, 0));
        due("42 nothing is JOINED then, span", NOTHING, x.span(0, 0, 0, 0, 0, 0));
        due("42 it may be the same", 1, x.join(0, 5, 0, 0, 0, 0));
        due("42 no change", 1, x.count(1));
        due("42 in place of what was", 1, x.join(0, 6, 0, 3, 0, 0));
        due("42 in place of what was, day 5", 0, x.joined(5, 0));
        due("42 in place of what was, day 5 of it", 5, x.joined(5, 1));
        due("42 in place of what was, day 6", 3, x.joined(6, 0));
    }

    /** As both are now, whatever becomes of them. */
    private static void joinAsTheyAre() {
        LeapDesigner x = Check.with("year 10;even 1 of 2;", "year 20;even 1 of 2;");
        // YEAR 0 of the first has 11 days, day 11 is YEAR 1 of the second, of 20 days
        x.join(0, 11, 1, 1, 0, 0);
        for (int step = 0; step < 7; step++) {
            if (step == 1) {
                x.shift(0, 1);
            } else if (step == 2) {
                x.shift(1, 1);
            } else if (step == 3) {
                x.asRow(0);
            } else if (step == 4) {
                x.copy(1, 0);
            } else if (step == 5) {
                x.drop(0);
            } else if (step == 6) {
                x.undo();
                Check.design(x, 0, "year 3;");
            }
            due("42 in step " + step + ", the first", 10, x.joined(10, 1));
            due("42 in step " + step + ", the second", 1, x.joined(30, 0));
            due("42 in step " + step + ", the second's next YEAR", 2, x.joined(31, 0));
            due("42 in step " + step + ", often", 1, x.often(0, 0, 10));
        }
    }

    // ---- promise 43

    private static void joinedSeam() {
        LeapDesigner x = Check.with(TEN, TWENTY);
        // day 5 is day 67 of the second
        x.join(0, 5, 1, 3, 0, 7);
        long[][] want = {{4, 0, 4, 0, 4, 4}, {5, 3, 7, 0, 7, 5}, {6, 3, 8, 0, 8, 6}, {7, 3, 9, 0, 9, 0}, {17, 3, 19, 0, 19, 3}, {18, 4, 0, 0, 0, 4},
            {0, 0, 0, 0, 0, 0}, {-1, -1, 9, 0, 9, 6}};
        for (long[] told : want) {
            for (int what = 0; what <= 4; what++) {
                due("43 day " + told[0] + ", what " + what, told[what + 1], x.joined(told[0], what));
            }
        }
    }

    /** Of the number of a day of the first one. */
    private static void joinedEnds() {
        LeapDesigner x = Check.with(TEN, TWENTY);
        x.join(0, 5, 1, 3, 0, 7);
        for (int what = 0; what <= 4; what++) {
            due("43 ahead of the first number", NOTHING, x.joined(-1000001, what));
            due("43 behind the last number", NOTHING, x.joined(1000010, what));
            due("43 the greatest", NOTHING, x.joined(Long.MAX_VALUE, what));
            due("43 the least", NOTHING, x.joined(Long.MIN_VALUE, what));
        }
        due("43 the first number", -100000, x.joined(-1000000, 0));
        // 1000009 and 62
        due("43 the last number", 50003, x.joined(1000009, 0));
        due("43 the last number's day", 11, x.joined(1000009, 1));
        due("43 the last number's WEEKDAY", 1000009 % 7, x.joined(1000009, 4));
    }

    private static void joinedSecondEnds() {
        LeapDesigner x = Check.with(TEN, TWENTY);
        x.join(1, 0, 0, 100000, 0, 0);
        due("43 the second's last day", 100000, x.joined(9, 0));
        due("43 the second's last day, which", 9, x.joined(9, 3));
        due("43 the second's last day, WEEKDAY", 8, x.joined(9, 4));
        for (int what = 0; what <= 4; what++) {
            due("43 behind the second's last day", NOTHING, x.joined(10, what));
        }
        due("43 ahead of the seam", -1, x.joined(-1, 0));
        due("43 ahead of the seam, its day", 19, x.joined(-1, 1));
        x.join(1, 0, 0, -100000, 0, 0);
        due("43 the second's first day", -100000, x.joined(0, 0));
        due("43 ahead of the second's first day", -1, x.joined(-1, 0));
    }

    private static void joinedOthers() {
        LeapDesigner x = Check.with(TEN, TWENTY);
        due("43 without", NOTHING, x.joined(0, 0));
        x.join(0, 5, 1, 3, 0, 7);
        for (int what : new int[] {-1, 5, FAR[0], FAR[1]}) {
            due("43 others, the first", NOTHING, x.joined(4, what));
            due("43 others, the second", NOTHING, x.joined(5, what));
        }
    }

    /** Day -1 is a day like others, though its number is that of NONE, too. */
    private static void joinedDayBelowZero() {
        LeapDesigner x = Check.with(TEN, TWENTY);
        // the second's day -10 is the first's day 5, so that its day -1 is the first's day 14
        due("42 a date below 0", 1, x.join(0, 5, 1, -1, 0, 10));
        due("43 day -1 of the first", 9, x.joined(-1, 1));
        due("43 day -1 of the second", 19, x.joined(14, 1));
        due("43 its YEAR", -1, x.joined(14, 0));
        due("43 its WEEKDAY", 0, x.joined(14, 4));
        due("44 day -1 of the first", 1, x.often(-1, 0, 9));
        due("44 day -1 of the second", 1, x.often(-1, 0, 19));
        due("45 from the one to the other", 15, x.span(-1, 0, 9, -1, 0, 19));
        due("42 both are -1", 1, x.join(0, -1, 1, -1, 0, 19));
        due("43 the seam at -1", 19, x.joined(-1, 1));
        due("43 ahead of it", 8, x.joined(-2, 1));
        due("44 the seam at -1", 1, x.often(-1, 0, 19));
        due("44 the first's is none", 0, x.often(-1, 0, 9));
    }

    // ---- promise 44

    /** On how many days a date is (0 .. 2). */
    private static void oftenSeam() {
        LeapDesigner x = Check.with(TEN, TWENTY);
        due("44 without", -1, x.often(0, 0, 0));
        // day 5 is day 0 of the second
        x.join(0, 5, 1, 0, 0, 0);
        due("44 twice, the first", 2, x.often(0, 0, 0));
        due("44 twice, the last", 2, x.often(0, 0, 4));
        due("44 the seam's day of the first is none", 1, x.often(0, 0, 5));
        due("44 the second's last day of the YEAR", 1, x.often(0, 0, 19));
        due("44 behind it", 0, x.often(0, 0, 20));
        due("44 of the first alone", 1, x.often(-1, 0, 9));
        due("44 a date of the second ahead of the seam", 0, x.often(-1, 0, 10));
        due("44 the second's next YEAR", 1, x.often(1, 0, 0));
        // day 5 is day 15 of the second: 0 to 4, then 15 on
        x.join(0, 5, 1, 0, 0, 15);
        due("44 the last of the first", 1, x.often(0, 0, 4));
        due("44 left out, the first", 0, x.often(0, 0, 5));
        due("44 left out, the last", 0, x.often(0, 0, 14));
        due("44 the seam", 1, x.often(0, 0, 15));
    }

    private static void oftenEnds() {
        LeapDesigner x = Check.with(TEN, TWENTY);
        x.join(0, 5, 1, 0, 0, 0);
        due("44 the first number", 1, x.often(-100000, 0, 0));
        due("44 the last number", 1, x.often(50000, 0, 4));
        due("44 behind the last number", 0, x.often(50000, 0, 5));
        due("44 far behind the last number", 0, x.often(100000, 0, 0));
        x.join(1, 0, 0, 100000, 0, 0);
        due("44 the second's last day, not the first's", 1, x.often(100000, 0, 9));
        due("44 the first's behind the seam", 0, x.often(100000, 0, 10));
        due("44 the first's ahead of the seam", 1, x.often(-1, 0, 19));
        x.join(0, -1000000, 1, 0, 0, 0);
        due("44 all by the second", 0, x.often(-1, 0, 0));
        due("44 all by the second, the first day", 1, x.often(0, 0, 0));
        x.join(0, 1000009, 1, 0, 0, 0);
        due("44 one day by the second", 2, x.often(0, 0, 0));
        due("44 one day by the second, no other", 1, x.often(0, 0, 1));
        due("44 that day by the first is none", 0, x.often(100000, 0, 9));
        due("44 the one ahead is", 1, x.often(100000, 0, 8));
    }

    private static void oftenNoDate() {
        LeapDesigner x = Check.with(TEN, TWENTY);
        x.join(0, 5, 1, 0, 0, 0);
        int[][] none = {{0, -1, 0}, {0, 1, 0}, {0, 0, -1}, {-1, 0, -1}, {0, FAR[0], 0}, {0, FAR[1], 0}, {0, 0, FAR[0]}, {0, 0, FAR[1]},
            {FAR[0], 0, 0}, {FAR[1], 0, 0}, {-100001, 0, 0}, {100001, 0, 0}};
        for (int[] date : none) {
            due("44 no date", 0, x.often(date[0], date[1], date[2]));
            due("45 from no date", NOTHING, x.span(date[0], date[1], date[2], 0, 0, 0));
            due("45 to no date", NOTHING, x.span(0, 0, 0, date[0], date[1], date[2]));
        }
    }

    // ---- promise 45

    /** Of each the first day with it. */
    private static void spanFirstDay() {
        LeapDesigner x = Check.with(TEN, TWENTY);
        x.join(0, 5, 1, 0, 0, 0);
        due("45 the same", 0, x.span(0, 0, 0, 0, 0, 0));
        due("45 the same, by the second", 0, x.span(0, 0, 19, 0, 0, 19));
        due("45 both twice", 4, x.span(0, 0, 0, 0, 0, 4));
        due("45 both twice, back", -4, x.span(0, 0, 4, 0, 0, 0));
        due("45 twice and once", 6, x.span(0, 0, 4, 0, 0, 5));
        due("45 once and twice", -10, x.span(0, 0, 5, 0, 0, 0));
        due("45 both once", 14, x.span(0, 0, 5, 0, 0, 19));
        due("45 over the seam", 26, x.span(-1, 0, 9, 1, 0, 0));
    }

    private static void spanEnds() {
        LeapDesigner x = Check.with(TEN, TWENTY);
        x.join(0, 5, 1, 0, 0, 0);
        due("45 from the first number to the last", 2000009, x.span(-100000, 0, 0, 50000, 0, 4));
        due("45 from the last number to the first", -2000009, x.span(50000, 0, 4, -100000, 0, 0));
        due("45 behind the last number", NOTHING, x.span(-100000, 0, 0, 50000, 0, 5));
        due("45 from behind the last number", NOTHING, x.span(50000, 0, 5, -100000, 0, 0));
    }

    private static void spanNone() {
        LeapDesigner x = Check.with(TEN, TWENTY);
        due("45 without", NOTHING, x.span(0, 0, 0, 0, 0, 0));
        x.join(0, 5, 1, 0, 0, 15);
        due("45 to a date left out", NOTHING, x.span(0, 0, 4, 0, 0, 5));
        due("45 from a date left out", NOTHING, x.span(0, 0, 14, 0, 0, 15));
        due("45 between two left out", NOTHING, x.span(0, 0, 5, 0, 0, 5));
        due("45 over those left out", 1, x.span(0, 0, 4, 0, 0, 15));
    }
}
