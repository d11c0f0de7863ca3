/** Promises 25 to 30, a method a sentence that names an edge: drift, its extremes, its bounds, where true years begin. */
public final class DriftEdgeTest {
    private static final Check CHECK = new Check("DriftEdgeTest");
    private static final long NOTHING = -1000000000000000L;
    private static final int[] OTHERS = {-1, 3, Integer.MIN_VALUE, Integer.MAX_VALUE};
    // DRIFT of YEAR y is -y, y, 0, and 0 or 1 by 2 in turns.
    private static final String BACK = "true 366 and 0 of 1;";
    private static final String AHEAD = "true 364 and 0 of 1;";
    private static final String PLAIN = "";
    private static final String TURNS = "every 2;true 365 and 1 of 2;";
    private static final int[][] WALKS = {{0, 0}, {0, 20000}, {-100000, -80000}, {80000, 100000}, {-100000, -100000}, {100000, 100000}};
    private static final int[][] NO_WALKS = {{0, 20001}, {-100000, -79999}, {79999, 100000}, {5, 4}, {0, -1}, {100000, 99999},
        {-100001, -100000}, {-100001, -100001}, {100000, 100001}, {100001, 100001}, {Integer.MIN_VALUE, Integer.MAX_VALUE},
        {Integer.MAX_VALUE, Integer.MIN_VALUE}, {Integer.MIN_VALUE, Integer.MIN_VALUE}, {Integer.MAX_VALUE, Integer.MAX_VALUE}};

    public static void main(String[] args) {
        driftParts();
        driftGreatest();
        extremeBothCount();
        extremeFirst();
        extremeRefused();
        passesBounds();
        passesMoreThan();
        passesYears();
        keepsFirst();
        keepsByExtremes();
        keepsLongest();
        keepsNoEven();
        dawnsBothCount();
        dawnsDays();
        dawnsInTurns();
        dawnsOfNoYear();
        dawnsRefused();
        steadyBounds();
        steadyLongest();
        steadyRefused();
        CHECK.end();
    }

    private static void due(String call, long want, long got) {
        CHECK.due(call, want, got);
    }

    // ---- promise 25

    private static void driftParts() {
        LeapDesigner x = Check.with(PLAIN, TURNS, "begins 2 of 4;", "true 365 and 2 of 4;begins 1 of 1000;");
        due("25 0 is 0", 0, x.drift(0, 100000, 0));
        due("25 0 is by 1", 1, x.drift(0, 100000, 1));
        due("25 above 0", 1, x.drift(1, 1, 0));
        due("25 above 0, below", 2, x.drift(1, 1, 1));
        due("25 of YEAR 0", -1, x.drift(2, 0, 0));
        due("25 of YEAR 0, in least terms", 2, x.drift(2, 0, 1));
        due("25 below 0 the upper number is", -501, x.drift(3, 1, 0));
        due("25 below 0 the lower number is not", 1000, x.drift(3, 1, 1));
        due("25 ahead of YEAR 0", 499, x.drift(3, -1, 0));
        for (int part : new int[] {-1, 2, Integer.MIN_VALUE, Integer.MAX_VALUE}) {
            due("25 no part", NOTHING, x.drift(0, 0, part));
        }
    }

    private static void driftGreatest() {
        LeapDesigner x = Check.with("year 999;extra 30;every 1;true 0 and 0 of 1;",
            "year 1;true 999 and 999999 of 1000000;begins 999 of 1000;", "year 1;true 999 and 999998 of 999999;begins 996 of 997;");
        due("25 the greatest", 102900000, x.drift(0, 100000, 0));
        due("25 the least", -102900000, x.drift(0, -100000, 0));
        due("25 of small parts", -99900000899L, x.drift(1, 100000, 0));
        due("25 of small parts, below", 1000, x.drift(1, 100000, 1));
        due("25 of small parts, ahead of 0", 99899998901L, x.drift(1, -100000, 0));
        due("25 of small parts, ahead of 0, below", 1000, x.drift(1, -100000, 1));
        // -999 and 1 of 999999 less 996 of 997, and with the other sign
        due("25 of the smallest parts", (-998L * 999999 - 999998) * 997 - 996L * 999999, x.drift(2, 1, 0));
        due("25 of the smallest parts, below", 999999L * 997, x.drift(2, 1, 1));
        long far = 100000L * (998L * 999999 + 999998) * 997;
        due("25 of the smallest parts, the first YEAR", far - 996L * 999999, x.drift(2, -100000, 0));
        due("25 of the smallest parts, the last YEAR", -far - 996L * 999999, x.drift(2, 100000, 0));
        due("25 of the smallest parts, the last YEAR, below", 999999L * 997, x.drift(2, 100000, 1));
    }

    // ---- promise 26

    /** From one YEAR to another one (both count). */
    private static void extremeBothCount() {
        LeapDesigner x = Check.with(BACK, AHEAD);
        for (int[] walk : WALKS) {
            String call = walk[0] + " to " + walk[1];
            due("26 back, the greatest: " + call, walk[0], x.extreme(0, walk[0], walk[1], true, 2));
            due("26 back, the greatest, above: " + call, -walk[0], x.extreme(0, walk[0], walk[1], true, 0));
            due("26 back, the least: " + call, walk[1], x.extreme(0, walk[0], walk[1], false, 2));
            due("26 back, the least, above: " + call, -walk[1], x.extreme(0, walk[0], walk[1], false, 0));
            due("26 ahead, the greatest: " + call, walk[1], x.extreme(1, walk[0], walk[1], true, 2));
            due("26 ahead, the least: " + call, walk[0], x.extreme(1, walk[0], walk[1], false, 2));
            due("26 by 1: " + call, 1, x.extreme(1, walk[0], walk[1], false, 1));
        }
    }

    private static void extremeFirst() {
        LeapDesigner x = Check.with(PLAIN, TURNS);
        due("26 all alike, the greatest", 7, x.extreme(0, 7, 20, true, 2));
        due("26 all alike, the least", 7, x.extreme(0, 7, 20, false, 2));
        due("26 in turns, the greatest", 1, x.extreme(1, 0, 10, true, 2));
        due("26 in turns, the least", 0, x.extreme(1, 0, 10, false, 2));
        due("26 in turns from 1, the greatest", 1, x.extreme(1, 1, 10, true, 2));
        due("26 in turns from 1, the least", 2, x.extreme(1, 1, 10, false, 2));
        due("26 in turns from -3, the greatest", -3, x.extreme(1, -3, 10, true, 2));
        due("26 in turns from -3, the least", -2, x.extreme(1, -3, 10, false, 2));
        due("26 in turns, the greatest, above", 1, x.extreme(1, 0, 10, true, 0));
        due("26 in turns, the greatest, below", 2, x.extreme(1, 0, 10, true, 1));
        due("26 in turns, the least, by 1", 1, x.extreme(1, 0, 10, false, 1));
    }

    private static void extremeRefused() {
        LeapDesigner x = Check.with(BACK);
        for (int[] walk : NO_WALKS) {
            for (int what = 0; what <= 2; what++) {
                due("26 from " + walk[0] + " to " + walk[1], NOTHING, x.extreme(0, walk[0], walk[1], what == 0, what));
            }
        }
        for (int what : OTHERS) {
            due("26 others", NOTHING, x.extreme(0, 0, 1, true, what));
            due("26 others of the least", NOTHING, x.extreme(0, 0, 1, false, what));
        }
    }

    // ---- promise 27

    private static void passesBounds() {
        LeapDesigner x = Check.with(BACK, AHEAD);
        due("27 bound 1", 2, x.passes(0, 1));
        due("27 bound 1, the other way", 2, x.passes(1, 1));
        due("27 bound 9999", 10000, x.passes(0, 9999));
        due("27 bound 9999, the other way", 10000, x.passes(1, 9999));
        for (int bound : new int[] {0, -1, 10000, Integer.MIN_VALUE, Integer.MAX_VALUE}) {
            due("27 bound " + bound, -1, x.passes(0, bound));
        }
    }

    /** More than bound days away from that of YEAR 0. */
    private static void passesMoreThan() {
        LeapDesigner x = Check.with("true 365 and 1 of 2;", "true 365 and 1 of 2;begins 999 of 1000;", "true 366 and 0 of 1;begins 1 of 2;",
            "true 364 and 0 of 1;begins 1 of 2;", TURNS, PLAIN);
        due("27 just the bound does not count", 3, x.passes(0, 1));
        due("27 from that of YEAR 0, not from 0", 3, x.passes(1, 1));
        due("27 from that of YEAR 0, back", 4, x.passes(2, 3));
        due("27 from that of YEAR 0, ahead", 4, x.passes(3, 3));
        due("27 a great bound", 19999, x.passes(0, 9999));
        due("27 by none", -1, x.passes(4, 1));
        due("27 no DRIFT at all", -1, x.passes(5, 1));
    }

    /** From 0 on (ahead 20000 at most). */
    private static void passesYears() {
        LeapDesigner x = Check.with("true 365 and 49996 of 100000;", "true 365 and 9999 of 20000;", "true 364 and 50004 of 100000;",
            "true 364 and 10001 of 20000;");
        due("27 at 20000", 20000, x.passes(0, 9999));
        due("27 at 20001 not any more", -1, x.passes(1, 9999));
        due("27 at 20000, the other way", 20000, x.passes(2, 9999));
        due("27 at 20001 not any more, the other way", -1, x.passes(3, 9999));
    }

    // ---- promise 28

    /** The first S by which the greatest distance of DRIFT from 0 in YEARS 0 .. CYCLE less 1 is least. */
    private static void keepsFirst() {
        String[] texts = {"even 0 of 1;", "even 1 of 1;", "even 0 of 1000;", "even 1000 of 1000 shift 7;",
            // leap in YEAR 1 is S 1, and no YEAR of the CYCLE is behind that
            "even 1 of 2;",
            // leap in YEAR 3 is S 1
            "even 1 of 4;",
            // 0 and 1 by 2, or 0 and -1 by 2: S 0, 1 and S 2, 3
            "even 2 of 4 shift 3;true 365 and 1 of 2;",
            "even 1 of 2 shift 1;true 365 and 1 of 2;",
            // -1 by 2 and 0, or -1 by 2 and -1
            "even 1 of 2 shift 1;true 365 and 1 of 2;begins 1 of 2;",
            // the common YEAR is 1 by S 0, 2 by S 1, 0 by S 2, and the last one is best
            "even 2 of 3;true 366 and 0 of 1;"};
        int[] want = {0, 0, 0, 0, 1, 1, 0, 0, 0, 1};
        for (int i = 0; i < texts.length; i++) {
            LeapDesigner x = Check.with(texts[i]);
            int was = x.has(0, 11);
            due("28 '" + texts[i] + "'", want[i], x.keeps(0));
            due("28 S stays", was, x.has(0, 11));
            due("28 no change", 1, x.count(1));
        }
    }

    /** Each S is put in by shift() and its extremes are asked for: the first with the least distance is due. */
    private static void keepsByExtremes() {
        String[] truths = {"true 365 and 1 of 4;", "true 365 and 1 of 2;begins 1 of 3;", "true 365 and 2 of 3;begins 2 of 3;", "true 366 and 0 of 1;",
            "true 364 and 1 of 7;begins 1 of 2;", "extra 5;true 366 and 3 of 4;begins 4 of 5;"};
        for (String truth : truths) {
            for (int n = 1; n <= 9; n++) {
                for (int k = 0; k <= n; k++) {
                    LeapDesigner x = Check.with("even " + k + " of " + n + ";" + truth);
                    int kept = x.keeps(0);
                    due("28 even " + k + " of " + n + ";" + truth, keptByExtremes(x, n), kept);
                }
            }
        }
    }

    private static int keptByExtremes(LeapDesigner x, int n) {
        double least = Double.MAX_VALUE;
        int kept = -1;
        for (int s = 0; s < n; s++) {
            x.shift(0, s);
            double above = (double) x.extreme(0, 0, n - 1, true, 0) / x.extreme(0, 0, n - 1, true, 1);
            double below = (double) x.extreme(0, 0, n - 1, false, 0) / x.extreme(0, 0, n - 1, false, 1);
            double farthest = Math.max(Math.abs(above), Math.abs(below));
            if (farthest < least - 1e-6) {
                least = farthest;
                kept = s;
            }
        }
        return kept;
    }

    private static void keepsLongest() {
        // the common YEAR is S and 1 modulo 1000, and by half of them DRIFT is 1 by 2 away at the most
        due("28 999 of 1000", 498, Check.with("even 999 of 1000 shift 5;true 365 and 999 of 1000;").keeps(0));
        // the leap YEAR is 1000 less S: DRIFT is -y by 1000, and 1 more behind it
        due("28 1 of 1000", 500, Check.with("even 1 of 1000 shift 5;true 365 and 1 of 1000;").keeps(0));
        // of YEAR 999 alone no other one begins behind it
        due("28 1 of 1000, the last YEAR", 1, Check.with("even 1 of 1000;").keeps(0));
        due("28 999 of 1000, the last YEAR", 998, Check.with("even 999 of 1000;true 366 and 0 of 1;").keeps(0));
        // -999 by 1000 in YEAR 0, and nearer to 0 from then on if that is LEAP
        due("28 1 of 999", 0, Check.with("even 1 of 999 shift 5;true 365 and 1 of 1000;begins 999 of 1000;").keeps(0));
    }

    private static void keepsNoEven() {
        LeapDesigner x = Check.with("every 4;", "row 4 0;", "", "even 1 of 4;");
        due("28 every", -1, x.keeps(0));
        due("28 row", -1, x.keeps(1));
        due("28 none", -1, x.keeps(2));
        x.asRow(3);
        due("28 even no more", -1, x.keeps(3));
        due("28 not there", -1, x.keeps(4));
    }

    // ---- promise 29

    private static void dawnsBothCount() {
        LeapDesigner x = Check.with(PLAIN, "year 10;true 10 and 1 of 2;");
        for (int[] walk : WALKS) {
            for (int what = 0; what <= 2; what++) {
                due("29 from " + walk[0] + " to " + walk[1], 0, x.dawns(0, walk[0], walk[1], what));
            }
        }
        // YEARS 18, 19 and 20 begin at 189, at 199 and a half and at 210, the first day of YEAR 21
        due("29 the first counts", 9, x.dawns(1, 18, 18, 1));
        due("29 the first counts, with one behind", 9, x.dawns(1, 19, 20, 1));
        due("29 the last counts", 0, x.dawns(1, 19, 20, 0));
        due("29 without the last", 9, x.dawns(1, 18, 19, 0));
        due("29 another YEAR's, with the last", 1, x.dawns(1, 19, 20, 2));
        due("29 another YEAR's, without the last", 0, x.dawns(1, 0, 19, 2));
        due("29 another YEAR's, all behind 19", 3, x.dawns(1, 18, 22, 2));
    }

    /** On which days of its YEAR a true year begins (the day in which it does). */
    private static void dawnsDays() {
        LeapDesigner x = Check.with("year 10;true 10 and 1 of 2;", "year 10;extra 3;every 2;true 12 and 0 of 1;", "begins 999 of 1000;",
            "year 10;true 10 and 1 of 2;begins 1 of 2;", "true 0 and 0 of 1;begins 1 of 2;");
        due("29 cut down below 0", 9, x.dawns(0, -1, -1, 0));
        due("29 cut down below 0, in another YEAR", 1, x.dawns(0, -1, -1, 2));
        due("29 the last day of a leap YEAR", 12, x.dawns(1, 1, 1, 1));
        due("29 the last day of a leap YEAR, another one's", 1, x.dawns(1, 1, 1, 2));
        due("29 the last day of a leap YEAR, the least", 12, x.dawns(1, 1, 1, 0));
        due("29 late on the first day", 0, x.dawns(2, -100000, -80000, 1));
        due("29 late on the first day, its own", 0, x.dawns(2, 80000, 100000, 2));
        due("29 a half and a half are a day", 1, x.dawns(3, 1, 1, 0));
        due("29 a true year of no days", 0, x.dawns(4, -10000, 10000, 1));
        due("29 a true year of no days, its own", 20000, x.dawns(4, -10000, 10000, 2));
    }

    /** YEARS of 13 and 10 days in turns, true ones of 11 and a half: 0, 11, 23, 34, 46, 57, 69. */
    private static void dawnsInTurns() {
        LeapDesigner x = Check.with("year 10;extra 3;every 2;true 11 and 1 of 2;");
        due("29 in turns, the least", 0, x.dawns(0, 0, 6, 0));
        due("29 in turns, the greatest", 11, x.dawns(0, 0, 6, 1));
        due("29 in turns, another YEAR's", 3, x.dawns(0, 0, 6, 2));
        due("29 in turns, ahead of 0", 11, x.dawns(0, -7, 0, 1));
        due("29 in turns, ahead of 0, another YEAR's", 4, x.dawns(0, -7, 0, 2));
    }

    /** A day of no YEAR that can be, too. */
    private static void dawnsOfNoYear() {
        LeapDesigner x = Check.with("year 1;true 1 and 1 of 100000;", "year 1;true 2 and 0 of 1;", "year 1;true 999 and 0 of 1;");
        for (int what = 0; what <= 2; what++) {
            due("29 behind the last day", -1, x.dawns(0, 100000, 100000, what));
            due("29 behind the last day, the last alone", -1, x.dawns(0, 90000, 100000, what));
            due("29 ahead of the first day", -1, x.dawns(0, -100000, -100000, what));
            due("29 ahead of the first day, the first alone", -1, x.dawns(0, -100000, -90000, what));
        }
        due("29 on the last day but one", 0, x.dawns(0, 99999, 99999, 0));
        due("29 on the last day but one, its own", 0, x.dawns(0, 99999, 99999, 2));
        due("29 on the first day", 0, x.dawns(0, -99999, -99999, 1));
        due("29 on the first day, of another YEAR", 1, x.dawns(0, -99999, -99999, 2));
        due("29 on the last day", 1, x.dawns(1, 50000, 50000, 2));
        due("29 two behind the last day", -1, x.dawns(1, 50001, 50001, 2));
        due("29 on the first day, twice", 1, x.dawns(1, -50000, -50000, 2));
        due("29 two ahead of the first day", -1, x.dawns(1, -50001, -50001, 2));
        due("29 far behind", -1, x.dawns(2, 100000, 100000, 0));
        due("29 far ahead", -1, x.dawns(2, -100000, -100000, 0));
    }

    private static void dawnsRefused() {
        LeapDesigner x = Check.with(PLAIN);
        for (int[] walk : NO_WALKS) {
            for (int what = 0; what <= 2; what++) {
                due("29 from " + walk[0] + " to " + walk[1], -1, x.dawns(0, walk[0], walk[1], what));
            }
        }
        for (int what : OTHERS) {
            due("29 others", -1, x.dawns(0, 0, 1, what));
        }
    }

    // ---- promise 30

    private static void steadyBounds() {
        LeapDesigner x = Check.with(BACK, AHEAD, "begins 1 of 1000;");
        for (int s = 0; s <= 1; s++) {
            due("30 bound 0", 1, x.steady(s, -5, 5, 0, 0));
            due("30 bound 0, the first", 0, x.steady(s, -5, 5, 0, 1));
            due("30 bound 3", 7, x.steady(s, -5, 5, 3, 0));
            due("30 bound 3, the first", -3, x.steady(s, -5, 5, 3, 1));
            due("30 bound 9999", 19999, x.steady(s, -10000, 10000, 9999, 0));
            due("30 bound 9999, the first", -9999, x.steady(s, -10000, 10000, 9999, 1));
        }
        due("30 a little away from 0", 0, x.steady(2, -5, 5, 0, 0));
        due("30 a little away from 0, none", -1, x.steady(2, -5, 5, 0, 1));
        due("30 a little away from 0, all", 11, x.steady(2, -5, 5, 1, 0));
    }

    /** The longest row of YEARS, of like ones the first. */
    private static void steadyLongest() {
        LeapDesigner x = Check.with(BACK, TURNS, "row 10 0 1 2 3 4;true 365 and 1 of 2;", PLAIN);
        due("30 at the end", 3, x.steady(0, -100, -3, 5, 0));
        due("30 at the end, the first", -5, x.steady(0, -100, -3, 5, 1));
        due("30 at the beginning", 3, x.steady(0, 3, 100, 5, 0));
        due("30 at the beginning, the first", 3, x.steady(0, 3, 100, 5, 1));
        due("30 of like ones the first", 0, x.steady(1, 0, 10, 0, 1));
        due("30 of like ones the first, from 1", 2, x.steady(1, 1, 10, 0, 1));
        due("30 of like ones, how many", 1, x.steady(1, 1, 10, 0, 0));
        // 0 .. 2, then 8 .. 12, then 18 .. 22
        due("30 a longer one behind", 5, x.steady(2, 0, 20, 1, 0));
        due("30 a longer one behind, the first", 8, x.steady(2, 0, 20, 1, 1));
        due("30 as long ones", 8, x.steady(2, 0, 22, 1, 1));
        due("30 a shorter one behind", 3, x.steady(2, 0, 10, 1, 0));
        due("30 a shorter one ahead", 8, x.steady(2, 1, 10, 1, 1));
        due("30 all YEARS, 20000 between", 20001, x.steady(3, -100000, -80000, 0, 0));
        due("30 all YEARS, the first", -100000, x.steady(3, -100000, -80000, 0, 1));
        due("30 all YEARS to the last", 20001, x.steady(3, 80000, 100000, 9999, 0));
        due("30 one YEAR", 1, x.steady(3, 100000, 100000, 0, 0));
        due("30 without", 0, x.steady(0, 1, 100, 0, 0));
        due("30 without, the first", -1, x.steady(0, 1, 100, 0, 1));
    }

    private static void steadyRefused() {
        LeapDesigner x = Check.with(PLAIN);
        for (int[] walk : NO_WALKS) {
            due("30 from " + walk[0] + " to " + walk[1], NOTHING, x.steady(0, walk[0], walk[1], 1, 0));
            due("30 from " + walk[0] + " to " + walk[1] + ", the first", NOTHING, x.steady(0, walk[0], walk[1], 1, 1));
        }
        for (int bound : new int[] {-1, 10000, Integer.MIN_VALUE, Integer.MAX_VALUE}) {
            due("30 bound " + bound, NOTHING, x.steady(0, 0, 10, bound, 0));
            due("30 bound " + bound + ", the first", NOTHING, x.steady(0, 0, 10, bound, 1));
        }
        for (int what : new int[] {-1, 2, Integer.MIN_VALUE, Integer.MAX_VALUE}) {
            due("30 others", NOTHING, x.steady(0, 0, 10, 1, what));
        }
    }
}
