/** Terms III and promises 46 to 53, a method a sentence that names an edge: designs compared, fractions. */
public final class CompareEdgeTest {
    private static final Check CHECK = new Check("CompareEdgeTest");
    private static final long NOTHING = -1000000000000000L;
    private static final int[] FAR = {Integer.MIN_VALUE, Integer.MAX_VALUE};
    private static final int[][] NO_SHARES = {{-1, 5}, {6, 5}, {0, 0}, {1, 0}, {0, -1}, {-1, -1}, {0, 1000001}, {1, 1000001}, {1000001, 1000000},
        {1000001, 1000001}, {FAR[0], 5}, {FAR[1], 5}, {0, FAR[0]}, {0, FAR[1]}, {FAR[1], FAR[1]}, {FAR[0], FAR[0]}};

    public static void main(String[] args) {
        likeFewest();
        likeEach();
        likeLong();
        likeCycles();
        withinBounds();
        withinN();
        withinK();
        withinNoMoreThan();
        asRowCycle();
        asRowLeapYears();
        apartBothCount();
        apartAlone();
        apartStarts();
        apartRefused();
        bestBounds();
        bestNearest();
        bestLikeOnes();
        termBounds();
        termLast();
        convergentBounds();
        convergentOfMany();
        suggestsBounds();
        suggestsFraction();
        suggestsDayOff();
        suggestsLowerNumber();
        CHECK.end();
    }

    private static void due(String call, long want, long got) {
        CHECK.due(call, want, got);
    }

    // ---- promise 46

    private static void like(String one, String other, int want) {
        due("46 '" + one + "' like '" + other + "'", want, Check.with(one, other).like(0, 1));
    }

    /** By the fewest YEARS (0 .. CYCLE less 1). */
    private static void likeFewest() {
        like("row 5 0;", "row 5 0;", 0);
        like("row 5 0;", "row 5 1;", 1);
        like("row 5 0;", "row 5 4;", 4);
        like("row 5 4;", "row 5 0;", 1);
        like("row 5 1;", "row 5 0;", 4);
        like("row 6 0 3;", "row 6 2 5;", 2);
        like("row 6 2 5;", "row 6 0 3;", 1);
        like("row 6 0 2 4;", "row 6 1 3 5;", 1);
        like("row 6 0 2 4;", "row 6 0 2 4;", 0);
        like("even 1 of 1000;", "even 1 of 1000 shift 1;", 999);
        like("even 1 of 1000 shift 1;", "even 1 of 1000;", 1);
        like("every 4999 not 9998;", "every 9998;", 4999);
        like("every 9999;", "every 9999;", 0);
        like("row 7 0 1 3;", "row 7 0 1 3;", 0);
        like("row 7 0 1 3;", "row 7 0 2 6;", 6);
        like("row 8 0 1 2 4;", "row 8 0 4 5 6;", 4);
        // of other sorts
        like("even 0 of 5;", "row 5;", 0);
        like("even 5 of 5;", "row 5 0 1 2 3 4;", 0);
        like("every 4;", "even 1 of 4 shift 3;", 1);
        like("every 1;", "row 1 0;", 0);
        like("", "row 1;", 0);
        like("", "even 0 of 1;", 0);
        due("46 itself", 0, Check.with("row 5 3;").like(0, 0));
    }

    /** Every row of up to 6 YEARS with every other one, turned YEAR by YEAR until it is the same. */
    private static void likeEach() {
        for (int n = 1; n <= 6; n++) {
            for (int one = 0; one < 1 << n; one++) {
                LeapDesigner x = Check.with(rowOf(n, one));
                for (int other = 0; other < 1 << n; other++) {
                    Check.design(x, 1, rowOf(n, other));
                    due("46 " + rowOf(n, one) + " like " + rowOf(n, other), turned(n, one, other), x.like(0, 1));
                }
            }
        }
    }

    private static String rowOf(int n, int bits) {
        StringBuilder row = new StringBuilder("row " + n);
        for (int year = 0; year < n; year++) {
            row.append((bits >> year & 1) == 1 ? " " + year : "");
        }
        return row.append(';').toString();
    }

    private static int turned(int n, int one, int other) {
        for (int by = 0; by < n; by++) {
            int later = (one << by | one >> n - by) & (1 << n) - 1;
            if (later == other) {
                return by;
            }
        }
        return -1;
    }

    /** Long CYCLES that are nearly the same again and again. */
    private static void likeLong() {
        for (int n : new int[] {34, 55, 89, 400, 999, 1000}) {
            for (int k : new int[] {1, 2, 13, n / 2, n - 2, n - 1}) {
                for (int by : new int[] {0, 1, n / 2, n - 1}) {
                    int part = greatestCommon(k, n);
                    // K times by less: that many YEARS later
                    int shift = Math.floorMod(-k * by, n);
                    like("even " + k + " of " + n + ";", "even " + k + " of " + n + " shift " + shift + ";", by % (n / part));
                }
            }
        }
    }

    private static int greatestCommon(int a, int b) {
        return b == 0 ? a : greatestCommon(b, a % b);
    }

    /** NONE: by none, CYCLES are others. */
    private static void likeCycles() {
        like("row 5 0;", "row 5;", -1);
        like("row 5;", "row 5 0;", -1);
        like("row 5 0 1;", "row 5 0 2;", -1);
        like("row 7 0 1 3;", "row 7 0 2 3;", -1);
        like("row 1;", "row 1 0;", -1);
        like("", "every 1;", -1);
        like("every 9999;", "every 3 not 9999;", -1);
        // the same LEAP YEARS, another CYCLE
        like("row 5 0;", "row 10 0 5;", -1);
        like("even 1 of 4;", "even 2 of 8;", -1);
        like("", "row 2;", -1);
        like("", "even 0 of 2;", -1);
        like("every 9998;", "every 9999;", -1);
    }

    // ---- promise 47

    private static void withinBounds() {
        LeapDesigner x = Check.with("");
        due("47 the least", 1, x.within(0, 1, 1, 0));
        due("47 the most YEARS", 1, x.within(0, 100000, 1, 0));
        due("47 the greatest bound", 1, x.within(0, 1, 9999, 0));
        due("47 both", 1, x.within(0, 100000, 9999, 0));
        due("47 both, K", 0, x.within(0, 100000, 9999, 1));
        for (int years : new int[] {0, -1, 100001, FAR[0], FAR[1]}) {
            due("47 YEARS " + years, NOTHING, x.within(0, years, 1, 0));
        }
        for (int bound : new int[] {0, -1, 10000, FAR[0], FAR[1]}) {
            due("47 bound " + bound, NOTHING, x.within(0, 1, bound, 0));
        }
        for (int what : new int[] {-1, 2, FAR[0], FAR[1]}) {
            due("47 others", NOTHING, x.within(0, 1, 1, what));
        }
    }

    /** The least N (1 .. 1000). */
    private static void withinN() {
        LeapDesigner x = Check.with("true 365 and 1 of 1000;", "extra 30;true 365 and 3 of 100;", "extra 30;true 365 and 15 of 1000;",
            "extra 30;true 394 and 97 of 100;", "extra 30;true 394 and 985 of 1000;");
        // 1 by 990 is more than 1 by 100000 away from 1 by 1000, 1 by 991 is not
        due("47 the least of many", 991, x.within(0, 100000, 1, 0));
        due("47 the least of many, K", 1, x.within(0, 100000, 1, 1));
        due("47 N 1000", 1000, x.within(1, 100000, 1, 0));
        due("47 N 1000, K", 1, x.within(1, 100000, 1, 1));
        due("47 N 1000 of the others", 1000, x.within(3, 100000, 1, 0));
        due("47 N 1000 of the others, K", 999, x.within(3, 100000, 1, 1));
        // 1 by 2000
        due("47 none", NOTHING, x.within(2, 100000, 1, 0));
        due("47 none, K", NOTHING, x.within(2, 100000, 1, 1));
        due("47 none of the others", NOTHING, x.within(4, 100000, 1, 0));
    }

    /** The nearest such K, of like ones the lesser; 0 .. N. */
    private static void withinK() {
        LeapDesigner x = Check.with("true 365 and 1 of 2;", "true 365 and 1 of 3;", "true 365 and 2 of 3;", "year 1;true 999 and 0 of 1;",
            "year 999;true 0 and 0 of 1;", "extra 2;true 366 and 0 of 1;");
        due("47 of like ones the lesser", 0, x.within(0, 1, 1, 1));
        due("47 of like ones, N", 1, x.within(0, 1, 1, 0));
        due("47 the nearest, below", 0, x.within(1, 1, 1, 1));
        due("47 the nearest, above", 1, x.within(2, 1, 1, 1));
        due("47 no more than N", 1, x.within(3, 1, 9999, 1));
        due("47 no more than N, N", 1, x.within(3, 1, 9999, 0));
        due("47 no less than 0", 0, x.within(4, 1, 9999, 1));
        due("47 no less than 0, N", 1, x.within(4, 1, 9999, 0));
        due("47 of like ones by extra the lesser", 0, x.within(5, 1, 1, 1));
        due("47 by extra, two YEARS", 1, x.within(5, 2, 1, 1));
        due("47 by extra, two YEARS, N", 2, x.within(5, 2, 1, 0));
    }

    /** In so many YEARS no more than bound days away. */
    private static void withinNoMoreThan() {
        LeapDesigner x = Check.with("true 366 and 1 of 2;", "true 364 and 1 of 2;", "true 365 and 9999 of 100000;", "true 366 and 0 of 1;",
            "year 1;true 999 and 0 of 1;", "true 365 and 1 of 4;");
        due("47 just the bound, above", 1, x.within(0, 2, 1, 0));
        due("47 just the bound, above, K", 1, x.within(0, 2, 1, 1));
        due("47 more than the bound, above", NOTHING, x.within(0, 3, 1, 0));
        due("47 just the bound, below", 1, x.within(1, 2, 1, 0));
        due("47 more than the bound, below", NOTHING, x.within(1, 3, 1, 0));
        due("47 just a great bound", 1, x.within(2, 100000, 9999, 0));
        due("47 just a great bound, K", 0, x.within(2, 100000, 9999, 1));
        due("47 more than a great bound", 6, x.within(2, 100000, 9998, 0));
        due("47 more than a great bound, K", 1, x.within(2, 100000, 9998, 1));
        due("47 not away at all", 1, x.within(3, 100000, 1, 0));
        due("47 not away at all, K", 1, x.within(3, 100000, 1, 1));
        // 999 less 2 days in a YEAR
        due("47 997 days in a YEAR", 1, x.within(4, 1, 997, 0));
        due("47 997 days in a YEAR, no less", NOTHING, x.within(4, 1, 996, 0));
        due("47 9970 days in ten", 1, x.within(4, 10, 9970, 0));
        due("47 9970 days in ten, no less", NOTHING, x.within(4, 10, 9969, 0));
        due("47 a quarter, four YEARS", 1, x.within(5, 4, 1, 0));
        due("47 a quarter, five YEARS", 3, x.within(5, 5, 1, 0));
        due("47 a quarter, all YEARS", 4, x.within(5, 100000, 1, 0));
    }

    // ---- promise 48

    /** Its CYCLE; -3: its CYCLE is above 400. */
    private static void asRowCycle() {
        String[] taken = {"even 3 of 400 shift 7;", "every 400;", "row 400 0 399;", "", "every 1;", "even 1 of 1;", "row 1;", "every 2 not 400;"};
        int[] cycles = {400, 400, 400, 1, 1, 1, 1, 400};
        for (int i = 0; i < taken.length; i++) {
            LeapDesigner x = Check.with(taken[i]);
            due("48 '" + taken[i] + "'", cycles[i], x.asRow(0));
            due("48 '" + taken[i] + "', sort", 3, x.has(0, 2));
            due("48 '" + taken[i] + "', CYCLE", cycles[i], x.has(0, 7));
            due("48 '" + taken[i] + "', K", -1, x.has(0, 9));
            due("48 '" + taken[i] + "', a change", 2, x.count(1));
        }
        String[] refused = {"even 3 of 401;", "every 401;", "every 2 not 402;", "even 1 of 1000;", "every 9999;"};
        for (String text : refused) {
            LeapDesigner x = Check.with(text);
            String told = Check.written(x, 0);
            due("48 '" + text + "'", -3, x.asRow(0));
            due("48 '" + text + "', no change", 1, x.count(1));
            CHECK.due("48 '" + text + "' stays", true, told.equals(Check.written(x, 0)));
        }
    }

    private static void asRowLeapYears() {
        String[] laws = {"even 3 of 8 shift 5;", "even 0 of 7;", "even 7 of 7;", "every 4 not 100 but 400;", "every 1;", "every 2 not 4;", "",
            "row 5 1 4;", "even 399 of 400 shift 399;"};
        for (String law : laws) {
            LeapDesigner x = Check.with(law, law);
            x.asRow(1);
            due("48 LEAP YEARS of '" + law + "'", 0, x.apart(0, 1, -10000, 10000, 0));
            due("48 STARTS of '" + law + "'", 0, x.apart(0, 1, -100000, -80000, 2));
            due("48 STARTS of '" + law + "', the last", 0, x.apart(0, 1, 80000, 100000, 2));
            due("48 LEAP YEARS in a CYCLE of '" + law + "'", x.has(0, 8), x.has(1, 8));
            due("48 year", x.has(0, 0), x.has(1, 0));
        }
        LeapDesigner x = Check.with("year 10;extra 2;even 1 of 4 shift 2;months 4 6 leap 0;week 5 at 4;true 10 and 1 of 2;begins 1 of 3;");
        x.asRow(0);
        String told = "year 10;extra 2;row 4 2;months 4 6 leap 0;week 5 at 4;true 10 and 1 of 2;begins 1 of 3;";
        CHECK.due("48 all else stays: " + Check.written(x, 0), true, told.equals(Check.written(x, 0)));
    }

    // ---- promise 49

    private static void apart(LeapDesigner x, int from, int to, long... want) {
        for (int what = 0; what <= 3; what++) {
            due("49 from " + from + " to " + to + ", what " + what, want[what], x.apart(0, 1, from, to, what));
            long back = x.apart(1, 0, from, to, what);
            due("49 from " + from + " to " + to + ", what " + what + ", the other way", want[what], back);
        }
    }

    /** From one YEAR to another one (both count; 20000 at most between). */
    private static void apartBothCount() {
        LeapDesigner x = Check.with("every 1;", "");
        apart(x, 0, 0, 1, 0, 0, 0);
        apart(x, 0, 20000, 20001, 0, 20000, 20000);
        apart(x, -100000, -80000, 20001, -100000, 100000, -100000);
        apart(x, 80000, 100000, 20001, 80000, 100000, 100000);
        apart(x, 100000, 100000, 1, 100000, 100000, 100000);
        apart(x, -100000, -100000, 1, -100000, 100000, -100000);
        apart(x, -5, 5, 11, -5, 5, -5);
    }

    /** One of two DESIGNS has a LEAP YEAR alone; NONE without. */
    private static void apartAlone() {
        LeapDesigner x = Check.with("row 400 0;", "");
        apart(x, 0, 5, 1, 0, 1, 1);
        apart(x, 1, 399, 0, -1, 1, 1);
        apart(x, 1, 400, 1, 400, 1, 1);
        apart(x, 400, 401, 1, 400, 2, 401);
        apart(x, -399, -1, 0, -1, 0, -399);
        apart(x, -400, -1, 1, -400, 1, -400);
        // each has one alone, and one is of both
        LeapDesigner y = Check.with("row 10 1 3;", "row 10 2 3;");
        apart(y, 0, 9, 2, 1, 1, 2);
        apart(y, 2, 9, 1, 2, 1, 2);
        apart(y, 3, 9, 0, -1, 0, 3);
        LeapDesigner z = Check.with("every 4;", "every 4;");
        apart(z, 7, 20, 0, -1, 0, 7);
    }

    /** The greatest distance of STARTS, the first YEAR with it. */
    private static void apartStarts() {
        LeapDesigner x = Check.with("year 10;", "year 13;");
        apart(x, -3, 3, 0, -1, 9, -3);
        apart(x, -2, 3, 0, -1, 9, 3);
        apart(x, 0, 0, 0, -1, 0, 0);
        LeapDesigner y = Check.with("year 1;", "year 999;extra 30;every 1;");
        apart(y, 80000, 100000, 20001, 80000, 102800000, 100000);
        apart(y, -100000, -80000, 20001, -100000, 102800000, -100000);
    }

    private static void apartRefused() {
        LeapDesigner x = Check.with("every 1;", "");
        int[][] walks = {{0, 20001}, {-100000, -79999}, {79999, 100000}, {5, 4}, {-100001, -100000}, {100000, 100001}, {FAR[0], FAR[1]},
            {FAR[1], FAR[0]}, {FAR[1], FAR[1]}, {FAR[0], FAR[0]}};
        for (int[] walk : walks) {
            for (int what = 0; what <= 3; what++) {
                due("49 from " + walk[0] + " to " + walk[1], NOTHING, x.apart(0, 1, walk[0], walk[1], what));
            }
        }
        for (int what : new int[] {-1, 4, FAR[0], FAR[1]}) {
            due("49 others", NOTHING, x.apart(0, 1, 0, 1, what));
        }
    }

    // ---- promise 50

    /** To P by Q (0 .. Q, Q 1 .. 1000000) with a lower number up to n (1 .. 100000). */
    private static void bestBounds() {
        best(0, 1, 1, 0, 1);
        best(1, 1, 1, 1, 1);
        best(0, 1000000, 100000, 0, 1);
        best(1000000, 1000000, 100000, 1, 1);
        best(1, 1000000, 100000, 0, 1);
        best(999999, 1000000, 100000, 1, 1);
        best(1, 100000, 100000, 1, 100000);
        best(1, 100000, 99999, 1, 99999);
        best(99999, 100000, 100000, 99999, 100000);
        best(1, 99999, 99999, 1, 99999);
        LeapDesigner x = new LeapDesigner();
        for (int[] share : NO_SHARES) {
            due("50 " + share[0] + " by " + share[1], NOTHING, x.best(share[0], share[1], 10, 0));
            due("50 " + share[0] + " by " + share[1] + ", below", NOTHING, x.best(share[0], share[1], 10, 1));
        }
        for (int n : new int[] {0, -1, 100001, FAR[0], FAR[1]}) {
            due("50 n " + n, NOTHING, x.best(1, 5, n, 0));
            due("50 n " + n + ", below", NOTHING, x.best(1, 5, n, 1));
        }
        for (int part : new int[] {-1, 2, FAR[0], FAR[1]}) {
            due("50 no part", NOTHING, x.best(1, 5, 10, part));
        }
    }

    private static void best(int p, int q, int n, int above, int below) {
        LeapDesigner x = new LeapDesigner();
        due("50 " + p + " by " + q + " up to " + n, above, x.best(p, q, n, 0));
        due("50 " + p + " by " + q + " up to " + n + ", below", below, x.best(p, q, n, 1));
    }

    private static void bestNearest() {
        best(499999, 1000000, 1, 0, 1);
        best(500001, 1000000, 1, 1, 1);
        best(1, 3, 1, 0, 1);
        best(2, 3, 1, 1, 1);
        best(2, 3, 2, 1, 2);
        best(2, 3, 3, 2, 3);
        best(200000, 300000, 2, 1, 2);
        best(200000, 300000, 3, 2, 3);
        best(2422, 10000, 3, 1, 3);
        best(2422, 10000, 4, 1, 4);
        // 3 by 13 is farther than 1 by 4, 4 by 17 is nearer
        best(2422, 10000, 16, 1, 4);
        best(2422, 10000, 17, 4, 17);
        best(2422, 10000, 24, 5, 21);
        best(2422, 10000, 28, 6, 25);
        best(2422, 10000, 29, 7, 29);
        best(2422, 10000, 32, 7, 29);
        best(2422, 10000, 33, 8, 33);
        // 458 by 1891 and 753 by 3109 are both 1 by 5000 times their lower number away
        best(2422, 10000, 3108, 458, 1891);
        best(2422, 10000, 4999, 753, 3109);
        best(2422, 10000, 5000, 1211, 5000);
        best(514229, 832040, 100000, 46368, 75025);
    }

    /** Of like ones that with the least lower number (of 0 and 1, both by 1, 0). */
    private static void bestLikeOnes() {
        best(1, 2, 1, 0, 1);
        best(500000, 1000000, 1, 0, 1);
        best(1, 4, 2, 0, 1);
        best(3, 4, 2, 1, 1);
        best(5, 12, 3, 1, 2);
        best(7, 12, 3, 1, 2);
        best(1, 6, 3, 0, 1);
        best(5, 6, 3, 1, 1);
        best(1, 8, 4, 0, 1);
        best(7, 24, 4, 1, 3);
        // lower numbers that need not be told in full
        best(4, 8, 8, 1, 2);
        best(0, 9, 9, 0, 1);
        best(9, 9, 9, 1, 1);
    }

    // ---- promise 51

    private static void termBounds() {
        LeapDesigner x = new LeapDesigner();
        for (int[] share : NO_SHARES) {
            due("51 " + share[0] + " by " + share[1], NOTHING, x.term(share[0], share[1], -1));
            due("51 " + share[0] + " by " + share[1] + ", TERM 0", NOTHING, x.term(share[0], share[1], 0));
        }
        terms(0, 1, 0);
        terms(1, 1, 1);
        terms(0, 1000000, 0);
        terms(1000000, 1000000, 1);
        terms(1, 1000000, 0, 1000000);
        terms(999999, 1000000, 0, 1, 999999);
        terms(1, 2, 0, 2);
        terms(2, 4, 0, 2);
        terms(2, 3, 0, 1, 2);
        terms(2422, 10000, 0, 4, 7, 1, 3, 4, 1, 1, 1, 2);
    }

    private static void terms(int p, int q, int... want) {
        LeapDesigner x = new LeapDesigner();
        String call = p + " by " + q;
        due("51 how many of " + call, want.length, x.term(p, q, -1));
        for (int k = 0; k < want.length; k++) {
            due("51 TERM " + k + " of " + call, want[k], x.term(p, q, k));
        }
        for (int k : new int[] {want.length, want.length + 1, -2, FAR[0], FAR[1]}) {
            due("51 no TERM " + k + " of " + call, NOTHING, x.term(p, q, k));
        }
    }

    /** The last one above 1 but if it is the only one: no other fraction up to 1000000 has more TERMS than this. */
    private static void termLast() {
        int[] want = new int[29];
        java.util.Arrays.fill(want, 1);
        want[0] = 0;
        want[28] = 2;
        terms(514229, 832040, want);
        for (int q = 1; q <= 20; q++) {
            for (int p = 0; p <= q; p++) {
                LeapDesigner x = new LeapDesigner();
                int count = (int) x.term(p, q, -1);
                due("51 the last of " + p + " by " + q, true, count == 1 || x.term(p, q, count - 1) > 1);
            }
        }
    }

    private static void due(String call, boolean want, boolean got) {
        CHECK.due(call, want, got);
    }

    // ---- promise 52

    private static void convergentBounds() {
        LeapDesigner x = new LeapDesigner();
        for (int[] share : NO_SHARES) {
            due("52 " + share[0] + " by " + share[1], NOTHING, x.convergent(share[0], share[1], 0, 0));
            due("52 " + share[0] + " by " + share[1] + ", below", NOTHING, x.convergent(share[0], share[1], 0, 1));
        }
        convergents(0, 1, 0, 1);
        convergents(1, 1, 1, 1);
        convergents(0, 1000000, 0, 1);
        convergents(1000000, 1000000, 1, 1);
        convergents(1, 1000000, 0, 1, 1, 1000000);
        convergents(999999, 1000000, 0, 1, 1, 1, 999999, 1000000);
        convergents(2, 4, 0, 1, 1, 2);
        convergents(2422, 10000, 0, 1, 1, 4, 7, 29, 8, 33, 31, 128, 132, 545, 163, 673, 295, 1218, 458, 1891, 1211, 5000);
        for (int part : new int[] {-1, 2, FAR[0], FAR[1]}) {
            due("52 no part", NOTHING, x.convergent(1, 2, 0, part));
        }
    }

    private static void convergents(int p, int q, int... want) {
        LeapDesigner x = new LeapDesigner();
        String call = p + " by " + q;
        int count = want.length / 2;
        for (int k = 0; k < count; k++) {
            due("52 " + k + " of " + call, want[2 * k], x.convergent(p, q, k, 0));
            due("52 " + k + " of " + call + ", below", want[2 * k + 1], x.convergent(p, q, k, 1));
        }
        for (int k : new int[] {count, count + 1, -1, -2, FAR[0], FAR[1]}) {
            due("52 none " + k + " of " + call, NOTHING, x.convergent(p, q, k, 0));
            due("52 none " + k + " of " + call + ", below", NOTHING, x.convergent(p, q, k, 1));
        }
    }

    private static void convergentOfMany() {
        LeapDesigner x = new LeapDesigner();
        due("52 the last but one of the most", 196418, x.convergent(514229, 832040, 27, 0));
        due("52 the last but one of the most, below", 317811, x.convergent(514229, 832040, 27, 1));
        due("52 the last of the most", 514229, x.convergent(514229, 832040, 28, 0));
        due("52 the last of the most, below", 832040, x.convergent(514229, 832040, 28, 1));
        due("52 behind the last of the most", NOTHING, x.convergent(514229, 832040, 29, 0));
    }

    // ---- promise 53

    private static void suggests(String text, int n, long k, long below, long years) {
        LeapDesigner x = Check.with(text);
        due("53 K of '" + text + "' up to " + n, k, x.suggests(0, n, 0));
        due("53 N of '" + text + "' up to " + n, below, x.suggests(0, n, 1));
        due("53 a day off by '" + text + "' up to " + n, years, x.suggests(0, n, 2));
    }

    /** With N up to n (1 .. 1000). */
    private static void suggestsBounds() {
        String text = "true 365 and 1 of 1000;";
        suggests(text, 1000, 1, 1000, 0);
        suggests(text, 999, 1, 999, 999000);
        suggests(text, 1, 0, 1, 1000);
        for (int n : new int[] {0, -1, 1001, FAR[0], FAR[1]}) {
            suggests(text, n, NOTHING, NOTHING, NOTHING);
        }
        LeapDesigner x = Check.with(text);
        for (int what : new int[] {-1, 3, FAR[0], FAR[1]}) {
            due("53 others", NOTHING, x.suggests(0, 10, what));
        }
    }

    /** As a fraction of 0 .. 1, else NOTHING. */
    private static void suggestsFraction() {
        suggests("", 1, 0, 1, 0);
        suggests("", 1000, 0, 1, 0);
        suggests("true 366 and 0 of 1;", 1, 1, 1, 0);
        suggests("true 366 and 0 of 1000000;", 1000, 1, 1, 0);
        suggests("true 366 and 1 of 1000000;", 10, NOTHING, NOTHING, NOTHING);
        suggests("true 364 and 999999 of 1000000;", 10, NOTHING, NOTHING, NOTHING);
        suggests("true 0 and 0 of 1;", 10, NOTHING, NOTHING, NOTHING);
        suggests("true 999 and 0 of 1;", 10, NOTHING, NOTHING, NOTHING);
        suggests("extra 30;true 395 and 0 of 1;", 10, 1, 1, 0);
        suggests("extra 30;true 395 and 1 of 2;", 10, NOTHING, NOTHING, NOTHING);
        suggests("extra 30;true 380 and 0 of 1;", 10, 1, 2, 0);
        suggests("year 1;extra 30;true 31 and 0 of 1;", 10, 1, 1, 0);
    }

    /** By how many years it is a day off then, cut (0: it is none). */
    private static void suggestsDayOff() {
        suggests("true 365 and 1 of 1000000;", 1000, 0, 1, 1000000);
        suggests("true 365 and 999999 of 1000000;", 1000, 1, 1, 1000000);
        suggests("true 365 and 1 of 2;", 1, 0, 1, 2);
        // 2 by 5 and 3 by 5 are two and a half years from a day off: cut
        suggests("true 365 and 2 of 5;", 1, 0, 1, 2);
        suggests("true 365 and 3 of 5;", 1, 1, 1, 2);
        // 10 of 30 days in a year are a third; off by a day in less than a year
        suggests("extra 30;true 375 and 0 of 1;", 1, 0, 1, 0);
        suggests("extra 30;true 375 and 0 of 1;", 2, 1, 2, 0);
        suggests("extra 30;true 375 and 0 of 1;", 3, 1, 3, 0);
        suggests("extra 3;true 366 and 0 of 1;", 1, 0, 1, 1);
        suggests("extra 3;true 366 and 0 of 1;", 2, 1, 2, 2);
        suggests("extra 3;true 366 and 0 of 1;", 3, 1, 3, 0);
    }

    /** When the lower number of that part would be above 1000000, that can't be. */
    private static void suggestsLowerNumber() {
        suggests("extra 2;true 365 and 1 of 500000;", 10, 0, 1, 500000);
        suggests("extra 2;true 365 and 1 of 500001;", 10, NOTHING, NOTHING, NOTHING);
        suggests("extra 30;true 365 and 1 of 33333;", 10, 0, 1, 33333);
        suggests("extra 30;true 365 and 1 of 33334;", 10, NOTHING, NOTHING, NOTHING);
        suggests("extra 30;true 365 and 1 of 1000000;", 10, NOTHING, NOTHING, NOTHING);
        suggests("true 365 and 1 of 1000000;", 10, 0, 1, 1000000);
        // 30 of 1000000 by 30 is 1 by 1000000
        suggests("extra 30;true 365 and 30 of 1000000;", 10, 0, 1, 33333);
    }
}
