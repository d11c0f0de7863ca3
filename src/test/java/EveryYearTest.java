/** Promises 17 to 21 and 36 in every single YEAR, against one walk from the first YEAR to the last. */
public final class EveryYearTest {
    private static final Check CHECK = new Check("EveryYearTest");
    private static final long NOTHING = -1000000000000000L;
    private static final int LAST = 100000;
    private static final int CALLS = 500;
    private static final String[] LAWS = {"", "even 8 of 33 shift 4;", "even 999 of 1000;", "every 4 not 100 but 400;", "every 1;",
        "year 1;extra 30;every 7 not 9975;", "year 999;extra 30;row 19 0 3 6 8 11 14 17;"};

    private final String text;
    private final boolean[] leap = new boolean[2 * LAST + 1];
    private final long[] start = new long[2 * LAST + 2];
    private LeapDesigner desk = null;
    private int calls = CALLS;

    private EveryYearTest(String text) {
        this.text = text;
    }

    public static void main(String[] args) {
        for (String law : LAWS) {
            EveryYearTest test = new EveryYearTest(law);
            test.learn();
            test.days();
            test.leapYears();
        }
        CHECK.end();
    }

    /** An object is good for 512 calls. */
    private LeapDesigner fresh() {
        calls++;
        if (calls > CALLS) {
            desk = Check.with(text);
            calls = 0;
        }
        return desk;
    }

    /** Wrong ones are all told; of the others a few, since texts take time. */
    private void due(String call, int year, long want, long got) {
        if (want != got || year % 5000 == 0) {
            CHECK.due("'" + text + "' " + call + " " + year, want, got);
        }
    }

    /** Days are added up from leap() alone, and told from START of YEAR 0 on. */
    private void learn() {
        int common = fresh().has(0, 0);
        int extra = fresh().has(0, 1);
        for (int i = 0; i < leap.length; i++) {
            leap[i] = fresh().leap(0, i - LAST) == 1;
            start[i + 1] = start[i] + common + (leap[i] ? extra : 0);
        }
        long zero = start[LAST];
        for (int i = 0; i < start.length; i++) {
            start[i] -= zero;
        }
    }

    private void days() {
        for (int i = 0; i < leap.length; i++) {
            int year = i - LAST;
            int days = (int) (start[i + 1] - start[i]);
            due("19 start", year, start[i], fresh().start(0, year));
            due("20 last day", year, start[i + 1] - 1, fresh().number(0, year, days - 1));
            due("20 a day too many", year, NOTHING, fresh().number(0, year, days));
            due("21 YEAR of the first day", year, year, fresh().date(0, start[i], 0));
            due("21 YEAR of the last day", year, year, fresh().date(0, start[i + 1] - 1, 0));
            due("21 first day", year, 0, fresh().date(0, start[i], 1));
            due("21 last day", year, days - 1, fresh().date(0, start[i + 1] - 1, 1));
        }
    }

    private void leapYears() {
        int ahead = 0;
        long latest = NOTHING;
        for (int i = 0; i < leap.length; i++) {
            due("18 leaps ahead of", i - LAST, ahead, fresh().leaps(0, -LAST, i - LAST));
            due("36 leap year ahead of", i - LAST, latest, fresh().next(0, i - LAST, -1));
            ahead += leap[i] ? 1 : 0;
            latest = leap[i] ? i - LAST : latest;
        }
        long coming = NOTHING;
        for (int i = leap.length - 1; i >= 0; i--) {
            due("36 leap year behind", i - LAST, coming, fresh().next(0, i - LAST, 1));
            coming = leap[i] ? i - LAST : coming;
        }
    }
}
