/** A method a promise: ordinary inputs, the edges that the document names, wrong inputs. */
public final class PromiseTest {
    private static final Check CHECK = new Check("PromiseTest");
    private static final long NOTHING = -1000000000000000L;

    private static final String GREGORIAN = "every 4 not 100 but 400;months 31 28 31 30 31 30 31 31 30 31 30 31 leap 1;"
            + "true 365 and 2422 of 10000;";
    private static final String JULIAN = "every 4;months 31 28 31 30 31 30 31 31 30 31 30 31 leap 1;week 7 at 3;"
            + "true 365 and 1 of 4;";
    private static final String PERSIAN = "even 8 of 33;true 365 and 2422 of 10000;";
    private static final String SHORT = "year 10;extra 3;row 5 1 4;months 4 6 leap 0;week 4 at 2;true 11 and 1 of 5;begins 1 of 2;";
    private static final String PLAIN = "";
    private static final String QUARTER = "even 1 of 4;true 365 and 1 of 4;";

    public static void main(String[] args) {
        promises1To8();
        promises9To16();
        promises17To24();
        promises25To30();
        promises31To38();
        promises39To45();
        promises46To53();
        CHECK.end();
    }

    private static void due(String call, long want, long got) {
        CHECK.due(call, want, got);
    }

    private static void promises1To8() {
        newObject();
        feed();
        end();
        design();
        fault();
        has();
        count();
        month();
    }

    private static void promises9To16() {
        mean();
        copy();
        drop();
        shift();
        truth();
        undo();
        write();
        octet();
    }

    private static void promises17To24() {
        leap();
        leaps();
        start();
        number();
        date();
        dated();
        later();
        taken();
    }

    private static void promises25To30() {
        drift();
        extreme();
        passes();
        keeps();
        dawns();
        steady();
    }

    private static void promises31To38() {
        gap();
        even();
        weeks();
        falls();
        nth();
        next();
        pattern();
        busiest();
    }

    private static void promises39To45() {
        moons();
        age();
        meets();
        join();
        joined();
        often();
        span();
    }

    private static void promises46To53() {
        like();
        within();
        asRow();
        apart();
        best();
        term();
        convergent();
        suggests();
    }

    // ---- promise 1
    private static void newObject() {
        LeapDesigner x = new LeapDesigner();
        for (int s = -1; s <= 6; s++) {
            due("1 has", -1, x.has(s, 0));
            due("1 start", NOTHING, x.start(s, 0));
        }
        due("1 count", 0, x.count(0));
        due("1 count of changes", 0, x.count(1));
        due("1 tape", 0, x.end(1) ? 1 : 0);
        due("1 octet", -1, x.octet(0));
        due("1 fault", 0, x.fault(0));
    }

    // ---- promise 2
    private static void feed() {
        LeapDesigner x = new LeapDesigner();
        for (int i = 1; i <= 40; i++) {
            due("2 feed", 20L * i, x.feed(0x20202020, 0x0a0a0a0a, 0x20202020, 0x20202020, 0x20202020));
        }
        due("2 feed past 800", -1, x.feed(0x3b3b3b3b, 0, 0, 0, 0));
        due("2 feed leaves the tape", 1, x.design(0));
        for (int i = 1; i <= 40; i++) {
            x.feed(0x20202020, 0x20202020, 0x20202020, 0x20202020, 0x20202020);
        }
        x.end(781);
        due("2 feed to 801", -1, x.feed(0, 0, 0, 0, 0));
        x.end(780);
        due("2 feed to 800", 800, x.feed(0, 0, 0, 0, 0));
        x.end(0);
        // the highest byte of a number comes first: "year 17;" and blanks
        x.feed(0x79656172, 0x2031373b, 0x20202020, 0x20202020, 0x20202020);
        x.design(0);
        due("2 bytes in order", 17, x.has(0, 0));
        x.feed(0x20202020, 0x20202020, 0x20202020, 0x20202020, 0x20202080);
        due("2 high byte", -1, x.design(0));
        due("2 high byte's place", 19, x.fault(1));
    }

    // ---- promise 3
    private static void end() {
        LeapDesigner x = new LeapDesigner();
        CHECK.due("3 end 0 of 0", true, x.end(0));
        CHECK.due("3 end 1 of 0", false, x.end(1));
        x.feed(0, 0, 0, 0, 0);
        CHECK.due("3 end -1", false, x.end(-1));
        CHECK.due("3 end 21", false, x.end(21));
        CHECK.due("3 end least", false, x.end(Integer.MIN_VALUE));
        CHECK.due("3 end greatest", false, x.end(Integer.MAX_VALUE));
        CHECK.due("3 end 20", true, x.end(20));
        CHECK.due("3 end 7", true, x.end(7));
        CHECK.due("3 end 8", false, x.end(8));
        due("3 goes on behind", 27, x.feed(0, 0, 0, 0, 0));
        x.end(0);
        Check.feed(x, "year 3655;");
        x.end(8);
        due("3 what stood behind is gone", -1, x.design(0));
        due("3 what stood behind is gone, fault", 1, x.fault(0));
        due("3 what stood behind is gone, place", 8, x.fault(1));
    }

    // ---- promise 4
    private static void design() {
        LeapDesigner x = new LeapDesigner();
        due("4 every", 400, Check.design(x, 0, GREGORIAN));
        due("4 even", 33, Check.design(x, 5, PERSIAN));
        due("4 row", 5, Check.design(x, 3, SHORT));
        due("4 none", 1, Check.design(x, 3, PLAIN));
        due("4 in place", 365, x.has(3, 0));
        Check.feed(x, "year 20;");
        due("4 no slot -1", -2, x.design(-1));
        due("4 no slot 6", -2, x.design(6));
        due("4 the tape stays then", 1, x.design(3));
        due("4 the tape was read", 20, x.has(3, 0));
        due("4 fault", -1, Check.design(x, 3, "year 30;x"));
        due("4 all else stays", 20, x.has(3, 0));
        due("4 all else stays, changes", 5, x.count(1));
        due("4 the tape goes with a fault", 0, x.end(1) ? 1 : 0);
    }

    // ---- promise 5
    private static void fault() {
        LeapDesigner x = new LeapDesigner();
        due("5 ahead of any", 0, x.fault(0));
        due("5 ahead of any, place", -1, x.fault(1));
        Check.design(x, 0, "year 0;");
        due("5 fault", 2, x.fault(0));
        due("5 place", 5, x.fault(1));
        x.design(9);
        due("5 a -2 does not count", 2, x.fault(0));
        due("5 others", -1, x.fault(2));
        due("5 others below", -1, x.fault(-1));
        x.design(0);
        due("5 without", 0, x.fault(0));
        due("5 without, place", -1, x.fault(1));
    }

    // ---- promise 6
    private static void has() {
        LeapDesigner x = Check.with(GREGORIAN, PERSIAN, SHORT, PLAIN, "even 3 of 8 shift 5;week 5 at 4;");
        int[][] want = {
            {365, 1, 2, 12, 1, 7, 0, 400, 97, -1, -1, -1, -1},
            {365, 1, 1, 1, 0, 7, 0, 33, 8, 8, 33, 0, -1},
            {10, 3, 3, 2, 0, 4, 2, 5, 2, -1, -1, -1, -1},
            {365, 1, 0, 1, 0, 7, 0, 1, 0, -1, -1, -1, -1},
            {365, 1, 1, 1, 0, 5, 4, 8, 3, 3, 8, 5, -1},
        };
        for (int s = 0; s < want.length; s++) {
            for (int what = 0; what <= 12; what++) {
                due("6 has(" + s + ", " + what + ")", want[s][what], x.has(s, what));
            }
            due("6 has -1", -1, x.has(s, -1));
        }
        due("6 not there", -1, x.has(5, 0));
        due("6 no slot", -1, x.has(6, 0));
        LeapDesigner y = Check.with("months 300 60 5;");
        due("6 the last month without", 2, y.has(0, 4));
    }

    // ---- promise 7
    private static void count() {
        LeapDesigner x = Check.with(GREGORIAN, PERSIAN);
        due("7 there", 2, x.count(0));
        due("7 changes", 2, x.count(1));
        due("7 others", -1, x.count(2));
        due("7 others below", -1, x.count(-1));
        for (int i = 0; i < 11; i++) {
            x.truth(0, i, 0, 1);
        }
        due("7 twelve at most", 12, x.count(1));
    }

    // ---- promise 8
    private static void month() {
        LeapDesigner x = Check.with(GREGORIAN, SHORT, "extra 30;");
        due("8 common", 28, x.month(0, 1, false));
        due("8 leap", 29, x.month(0, 1, true));
        due("8 another one in a leap year", 31, x.month(0, 0, true));
        due("8 extra", 7, x.month(1, 0, true));
        due("8 no such month", -1, x.month(1, 2, false));
        due("8 below", -1, x.month(1, -1, false));
        due("8 not there", -1, x.month(3, 0, false));
        due("8 without LEAP YEARS", 395, x.month(2, 0, true));
    }

    // ---- promise 9
    private static void mean() {
        LeapDesigner x = Check.with(GREGORIAN, SHORT, "year 9;extra 6;even 2 of 4;true 0 and 0 of 7;");
        due("9 above", 146097, x.mean(0, false, 0));
        due("9 below", 400, x.mean(0, false, 1));
        due("9 true above", 1826211, x.mean(0, true, 0));
        due("9 true below", 5000, x.mean(0, true, 1));
        due("9 extra", 56, x.mean(1, false, 0));
        due("9 extra below", 5, x.mean(1, false, 1));
        due("9 whole", 12, x.mean(2, false, 0));
        due("9 whole below", 1, x.mean(2, false, 1));
        due("9 zero", 0, x.mean(2, true, 0));
        due("9 zero below", 1, x.mean(2, true, 1));
        due("9 part 2", NOTHING, x.mean(0, false, 2));
        due("9 part -1", NOTHING, x.mean(0, true, -1));
        due("9 not there", NOTHING, x.mean(4, true, 0));
    }

    // ---- promise 10
    private static void copy() {
        LeapDesigner x = Check.with(GREGORIAN, SHORT);
        due("10 made", 1, x.copy(5, 1));
        due("10 there", 3, x.count(0));
        CHECK.due("10 just as", true, Check.written(x, 1).equals(Check.written(x, 5)));
        due("10 itself", -2, x.copy(1, 1));
        due("10 from none", -2, x.copy(1, 4));
        due("10 to no slot", -2, x.copy(6, 1));
        due("10 from no slot", -2, x.copy(1, -1));
        due("10 a change each that was done", 3, x.count(1));
        due("10 over another", 1, x.copy(0, 1));
        due("10 over another, year", 10, x.has(0, 0));
        x.truth(0, 1, 0, 1);
        due("10 the one copied stays", 11, x.mean(1, true, 0) / 5);
        x.undo();
        due("10 undone", 3, x.undo());
        due("10 undone, year", 365, x.has(0, 0));
    }

    // ---- promise 11
    private static void drop() {
        LeapDesigner x = Check.with(GREGORIAN, SHORT);
        due("11 left", 1, x.drop(0));
        due("11 gone", -1, x.has(0, 0));
        due("11 again", -2, x.drop(0));
        due("11 no slot", -2, x.drop(6));
        due("11 no slot below", -2, x.drop(-1));
        due("11 changes", 3, x.count(1));
        due("11 none left", 0, x.drop(1));
    }

    // ---- promise 12
    private static void shift() {
        LeapDesigner x = Check.with(PERSIAN, GREGORIAN, SHORT, PLAIN);
        due("12 what it was", 0, x.shift(0, 32));
        due("12 is now", 32, x.has(0, 11));
        due("12 what it was then", 32, x.shift(0, 1));
        due("12 to 0", 1, x.shift(0, 0));
        due("12 from 0", 0, x.shift(0, 1));
        due("12 too much", -2, x.shift(0, 33));
        due("12 too little", -2, x.shift(0, -1));
        due("12 every", -3, x.shift(1, 0));
        due("12 row", -3, x.shift(2, 0));
        due("12 none", -3, x.shift(3, 0));
        due("12 not there", -2, x.shift(4, 0));
        due("12 no slot", -2, x.shift(-1, 0));
        due("12 changes", 8, x.count(1));
        due("12 leap", 1, x.leap(0, 0));
        due("12 leap, shifted", 1, x.leap(0, 4));
        due("12 leap no more", 0, x.leap(0, 5));
    }

    // ---- promise 13
    private static void truth() {
        LeapDesigner x = Check.with(SHORT);
        due("13 done", 1, x.truth(0, 999, 999999, 1000000));
        due("13 is now", 999999999, x.mean(0, true, 0));
        due("13 days", -2, x.truth(0, 1000, 0, 1));
        due("13 days below", -2, x.truth(0, -1, 0, 1));
        due("13 p", -2, x.truth(0, 1, 4, 4));
        due("13 p below", -2, x.truth(0, 1, -1, 4));
        due("13 q", -2, x.truth(0, 1, 0, 0));
        due("13 q above", -2, x.truth(0, 1, 0, 1000001));
        due("13 not there", -2, x.truth(1, 1, 0, 1));
        due("13 no slot", -2, x.truth(6, 1, 0, 1));
        due("13 changes", 2, x.count(1));
        due("13 zero", 1, x.truth(0, 0, 0, 1));
        due("13 begins stays", -1, x.drift(0, 0, 0));
        due("13 begins stays, below", 2, x.drift(0, 0, 1));
    }

    // ---- promise 14
    private static void undo() {
        LeapDesigner x = new LeapDesigner();
        due("14 none", -3, x.undo());
        Check.design(x, 0, PERSIAN);
        x.copy(1, 0);
        x.shift(1, 7);
        x.truth(1, 5, 0, 1);
        x.asRow(1);
        x.drop(0);
        due("14 changes", 6, x.count(1));
        due("14 drop", 5, x.undo());
        due("14 drop undone", 1, x.has(0, 2));
        due("14 asRow", 4, x.undo());
        due("14 asRow undone", 1, x.has(1, 2));
        due("14 truth", 3, x.undo());
        due("14 truth undone", 5000, x.mean(1, true, 1));
        due("14 shift", 2, x.undo());
        due("14 shift undone", 0, x.has(1, 11));
        due("14 copy", 1, x.undo());
        due("14 copy undone", -1, x.has(1, 0));
        due("14 design", 0, x.undo());
        due("14 design undone", 0, x.count(0));
        due("14 none any more", -3, x.undo());
        Check.design(x, 0, PERSIAN);
        for (int s = 1; s <= 14; s++) {
            x.shift(0, s);
        }
        for (int left = 11; left >= 0; left--) {
            due("14 the last twelve", left, x.undo());
        }
        due("14 no thirteenth", -3, x.undo());
        due("14 what twelve ago was", 2, x.has(0, 11));
        x.shift(0, 9);
        due("14 a change behind undo", 1, x.count(1));
    }

    // ---- promise 15
    private static void write() {
        LeapDesigner x = Check.with(GREGORIAN, SHORT, PLAIN, "even 2 of 5 shift 3;", "row 3;begins 2 of 4;");
        String[] want = {
            "year 365;extra 1;every 4 not 100 but 400;months 31 28 31 30 31 30 31 31 30 31 30 31 leap 1;"
                + "week 7 at 0;true 365 and 2422 of 10000;begins 0 of 1;",
            "year 10;extra 3;row 5 1 4;months 4 6 leap 0;week 4 at 2;true 11 and 1 of 5;begins 1 of 2;",
            "year 365;extra 1;months 365 leap 0;week 7 at 0;true 365 and 0 of 1;begins 0 of 1;",
            "year 365;extra 1;even 2 of 5 shift 3;months 365 leap 0;week 7 at 0;true 365 and 0 of 1;begins 0 of 1;",
            "year 365;extra 1;row 3;months 365 leap 0;week 7 at 0;true 365 and 0 of 1;begins 2 of 4;",
        };
        for (int s = 0; s < want.length; s++) {
            due("15 length", want[s].length(), x.write(s));
            CHECK.due("15 text " + s + ": " + Check.written(x, s), true, want[s].equals(Check.written(x, s)));
            Check.design(x, 5, want[s]);
            CHECK.due("15 again " + s, true, want[s].equals(Check.written(x, 5)));
        }
        due("15 not there", -1, new LeapDesigner().write(0));
        due("15 no slot", -1, x.write(6));
        LeapDesigner y = Check.with("even 400 of 400;");
        y.asRow(0);
        int numbers = 10 * 2 + 90 * 3 + 300 * 4;
        due("15 longer than the tape", "year 365;extra 1;row 400;months 365 leap 0;week 7 at 0;true 365 and 0 of 1;begins 0 of 1;"
            .length() + numbers, y.write(0));
    }

    // ---- promise 16
    private static void octet() {
        LeapDesigner x = Check.with(PLAIN);
        due("16 nothing written", -1, x.octet(0));
        int length = x.write(0);
        due("16 first", 'y', x.octet(0));
        due("16 last", ';', x.octet(length - 1));
        due("16 behind", -1, x.octet(length));
        due("16 ahead", -1, x.octet(-1));
        x.write(3);
        x.drop(0);
        due("16 stays", 'y', x.octet(0));
        Check.design(x, 1, SHORT);
        due("16 the latest", x.write(1), Check.written(x, 1).length());
        due("16 the latest one's byte", '1', x.octet(5));
    }

    // ---- promise 17
    private static void leap() {
        LeapDesigner x = Check.with(GREGORIAN, PERSIAN, SHORT, PLAIN, "every 3 not 6;");
        due("17 every", 1, x.leap(0, 2000));
        due("17 not", 0, x.leap(0, 1900));
        due("17 every, below 0", 1, x.leap(0, -400));
        due("17 not, below 0", 0, x.leap(0, -300));
        due("17 even", 1, x.leap(1, 5));
        due("17 even, below 0", 1, x.leap(1, -33));
        due("17 row", 1, x.leap(2, -1));
        due("17 row, no", 0, x.leap(2, 5));
        due("17 none", 0, x.leap(3, 0));
        due("17 not at the end", 0, x.leap(4, 0));
        due("17 not at the end, odd", 1, x.leap(4, 9));
        Check.design(x, 3, "row 1 0;");
        due("17 row of one", 1, x.leap(3, 7));
        due("17 row of one, below 0", 1, x.leap(3, -7));
        due("17 last", 1, x.leap(0, 100000));
        due("17 first", 1, x.leap(0, -100000));
        due("17 past", -1, x.leap(0, 100001));
        due("17 ahead", -1, x.leap(0, -100001));
        due("17 not there", -1, x.leap(5, 0));
    }

    // ---- promise 18
    private static void leaps() {
        LeapDesigner x = Check.with(GREGORIAN, PERSIAN, SHORT);
        due("18 cycle", 97, x.leaps(0, -400, 0));
        due("18 all", 97 * 500, x.leaps(0, -100000, 100000));
        due("18 the last does not count", 0, x.leaps(0, 1, 4));
        due("18 the first counts", 1, x.leaps(0, 4, 5));
        due("18 back", 0, x.leaps(0, 9, 4));
        due("18 even", 8, x.leaps(1, 7, 40));
        due("18 row", 3, x.leaps(2, -1, 5));
        due("18 past", -1, x.leaps(0, 0, 100001));
        due("18 ahead", -1, x.leaps(0, -100001, 0));
        due("18 back and ahead", -1, x.leaps(0, 0, -100001));
        due("18 not there", -1, x.leaps(3, 0, 1));
    }

    // ---- promise 19
    private static void start() {
        LeapDesigner x = Check.with(GREGORIAN, SHORT);
        due("19 zero", 0, x.start(0, 0));
        due("19 one", 366, x.start(0, 1));
        due("19 last", 36524250, x.start(0, 100000));
        due("19 first", -36524250, x.start(0, -100000));
        due("19 short", 10 + 13 + 10 + 10, x.start(1, 4));
        due("19 short, five", 56, x.start(1, 5));
        due("19 short, below 0", -13, x.start(1, -1));
        due("19 past", NOTHING, x.start(0, 100001));
        due("19 not there", NOTHING, x.start(2, 0));
    }

    // ---- promise 20
    private static void number() {
        LeapDesigner x = Check.with(GREGORIAN);
        due("20 first", 366, x.number(0, 1, 0));
        due("20 last", 730, x.number(0, 1, 364));
        due("20 none", NOTHING, x.number(0, 1, 365));
        due("20 leap", 365, x.number(0, 0, 365));
        due("20 leap, none", NOTHING, x.number(0, 0, 366));
        due("20 below", NOTHING, x.number(0, 0, -1));
        due("20 last year", 36524250 + 365, x.number(0, 100000, 365));
        due("20 past", NOTHING, x.number(0, 100001, 0));
        due("20 not there", NOTHING, x.number(1, 0, 0));
    }

    private static void date(LeapDesigner x, int s, long number, long... want) {
        for (int what = 0; what < 5; what++) {
            due("21 date(" + s + ", " + number + ", " + what + ")", want[what], x.date(s, number, what));
        }
    }

    // ---- promise 21
    private static void date() {
        LeapDesigner x = Check.with(GREGORIAN, SHORT);
        date(x, 0, 0, 0, 0, 0, 0, 0);
        date(x, 0, 59, 0, 59, 1, 28, 3);
        date(x, 0, 60, 0, 60, 2, 0, 4);
        date(x, 0, -1, -1, 364, 11, 30, 6);
        date(x, 0, -36524250, -100000, 0, 0, 0, 0);
        date(x, 0, 36524250 + 365, 100000, 365, 11, 30, 1);
        date(x, 1, 16, 1, 6, 0, 6, 2);
        date(x, 1, 17, 1, 7, 1, 0, 3);
        date(x, 1, -1, -1, 12, 1, 5, 1);
        due("21 past", NOTHING, x.date(0, 36524250 + 366, 0));
        due("21 ahead", NOTHING, x.date(0, -36524251, 0));
        due("21 far", NOTHING, x.date(0, Long.MAX_VALUE, 4));
        due("21 far below", NOTHING, x.date(0, Long.MIN_VALUE, 4));
        due("21 others", NOTHING, x.date(0, 0, 5));
        due("21 others below", NOTHING, x.date(0, 0, -1));
        due("21 not there", NOTHING, x.date(2, 0, 0));
    }

    // ---- promise 22
    private static void dated() {
        LeapDesigner x = Check.with(GREGORIAN, SHORT);
        due("22 leap day", 59, x.dated(0, 0, 1, 28));
        due("22 no leap day", NOTHING, x.dated(0, 1, 1, 28));
        due("22 behind it", 60, x.dated(0, 0, 2, 0));
        due("22 last", 36524250 + 365, x.dated(0, 100000, 11, 30));
        due("22 short", 10 + 7, x.dated(1, 1, 1, 0));
        due("22 short, below 0", -13 + 7 + 5, x.dated(1, -1, 1, 5));
        due("22 month", NOTHING, x.dated(0, 0, 12, 0));
        due("22 month below", NOTHING, x.dated(0, 0, -1, 0));
        due("22 day below", NOTHING, x.dated(0, 0, 0, -1));
        due("22 day above", NOTHING, x.dated(0, 0, 0, 31));
        due("22 year", NOTHING, x.dated(0, 100001, 0, 0));
        due("22 not there", NOTHING, x.dated(2, 0, 0, 0));
    }

    // ---- promise 23
    private static void later() {
        LeapDesigner x = Check.with(GREGORIAN, SHORT);
        due("23 its last day", 366 + 31 + 27, x.later(0, 0, 1, 28, 1));
        due("23 the same day", 1461 + 59, x.later(0, 0, 1, 28, 4));
        due("23 earlier", -365 + 58, x.later(0, 0, 1, 28, -1));
        due("23 no year", 59, x.later(0, 0, 1, 28, 0));
        due("23 short", 20 + 3 + 3, x.later(1, 1, 0, 6, 1));
        due("23 to the last", 36524250, x.later(0, -100000, 0, 0, 200000));
        due("23 to the first", -36524250, x.later(0, 100000, 0, 0, -200000));
        due("23 ahead of the first", NOTHING, x.later(0, 100000, 0, 0, -200001));
        due("23 past the last", NOTHING, x.later(0, -100000, 0, 0, 200001));
        due("23 far", NOTHING, x.later(0, 100000, 0, 0, Integer.MAX_VALUE));
        due("23 far below", NOTHING, x.later(0, -100000, 0, 0, Integer.MIN_VALUE));
        due("23 no such date", NOTHING, x.later(0, 1, 1, 28, 3));
        due("23 no such month", NOTHING, x.later(0, 1, 12, 0, 3));
        due("23 not there", NOTHING, x.later(2, 0, 0, 0, 0));
    }

    // ---- promise 24
    private static void taken() {
        LeapDesigner x = Check.with(GREGORIAN, JULIAN, SHORT);
        due("24 year", 1, x.taken(0, 366, 1, 0, 0));
        due("24 shifted", 0, x.taken(0, 366, 1, -1, 0));
        due("24 day", 365, x.taken(0, 366, 1, -1, 1));
        due("24 month", 11, x.taken(0, 366, 1, -1, 2));
        due("24 day of it", 30, x.taken(0, 366, 1, -1, 3));
        due("24 weekday of the other one", (365 + 3) % 7, x.taken(0, 366, 1, -1, 4));
        due("24 shift", NOTHING, x.taken(0, 0, 1, 1000001, 0));
        due("24 shift below", NOTHING, x.taken(0, 0, 1, -1000001, 0));
        due("24 greatest shift", 2737, x.taken(0, 0, 1, 1000000, 0));
        due("24 not a day of the first", NOTHING, x.taken(2, 1200000, 0, -1000000, 0));
        due("24 not a day of the other", NOTHING, x.taken(0, 1200000, 2, 0, 0));
        due("24 far", NOTHING, x.taken(0, Long.MAX_VALUE, 1, 1, 0));
        due("24 others", NOTHING, x.taken(0, 0, 1, 0, 5));
        due("24 itself", 1, x.taken(0, 365, 0, 1, 0));
        due("24 not there", NOTHING, x.taken(0, 0, 3, 0, 0));
        due("24 the first not there", NOTHING, x.taken(3, 0, 0, 0, 0));
    }

    // ---- promise 25
    private static void drift() {
        LeapDesigner x = Check.with(GREGORIAN, SHORT, PLAIN);
        due("25 above", 3789, x.drift(0, 1, 0));
        due("25 below", 5000, x.drift(0, 1, 1));
        due("25 less", -3, x.drift(0, -400, 0));
        due("25 less, below", 25, x.drift(0, -400, 1));
        due("25 none", 0, x.drift(2, 77, 0));
        due("25 none, below", 1, x.drift(2, 77, 1));
        // 10 less 11 and 1 of 5 less 1 of 2
        due("25 begins", -17, x.drift(1, 1, 0));
        due("25 begins, below", 10, x.drift(1, 1, 1));
        due("25 part", NOTHING, x.drift(0, 1, 2));
        due("25 year", NOTHING, x.drift(0, 100001, 0));
        due("25 not there", NOTHING, x.drift(4, 1, 0));
        LeapDesigner y = Check.with("year 999;extra 30;even 1 of 1;true 0 and 1 of 1000000;begins 1 of 999;");
        // 102900000 less 1 of 10 less 1 of 999
        due("25 great", 102900000L * 9990 - 999 - 10, y.drift(0, 100000, 0));
        due("25 great, below", 9990, y.drift(0, 100000, 1));
    }

    // ---- promise 26
    private static void extreme() {
        LeapDesigner x = Check.with(GREGORIAN, QUARTER);
        due("26 most", 3789, x.extreme(0, 0, 4, true, 0));
        due("26 most, below", 5000, x.extreme(0, 0, 4, true, 1));
        due("26 most, year", 1, x.extreme(0, 0, 4, true, 2));
        due("26 least", 0, x.extreme(0, 0, 4, false, 0));
        due("26 least, year", 0, x.extreme(0, 0, 4, false, 2));
        due("26 the first with it", 1, x.extreme(1, 0, 100, true, 2));
        due("26 the first with the least", -96, x.extreme(1, -99, 100, false, 2));
        due("26 one year", 4, x.extreme(0, 4, 4, true, 2));
        due("26 20000 between", 1, x.extreme(1, 0, 20000, true, 2));
        due("26 more between", NOTHING, x.extreme(1, 0, 20001, true, 2));
        due("26 back", NOTHING, x.extreme(0, 4, 3, true, 2));
        due("26 others", NOTHING, x.extreme(0, 0, 4, true, 3));
        due("26 others below", NOTHING, x.extreme(0, 0, 4, true, -1));
        due("26 year", NOTHING, x.extreme(0, 99999, 100001, true, 2));
        due("26 not there", NOTHING, x.extreme(2, 0, 4, true, 2));
    }

    // ---- promise 27
    private static void passes() {
        LeapDesigner x = Check.with(GREGORIAN, QUARTER, "true 365 and 1 of 4;begins 1 of 2;",
            "true 365 and 9999 of 20000;", "true 365 and 49996 of 100000;");
        due("27 first", 33, x.passes(0, 1));
        due("27 never", -1, x.passes(1, 1));
        due("27 from that of YEAR 0, more than", 5, x.passes(2, 1));
        due("27 just the bound, 20000 ahead", -1, x.passes(3, 9999));
        due("27 20000 ahead", 20000, x.passes(4, 9999));
        due("27 bound 0", -1, x.passes(2, 0));
        due("27 bound 10000", -1, x.passes(2, 10000));
        due("27 not there", -1, x.passes(-1, 1));
    }

    // ---- promise 28
    private static void keeps() {
        LeapDesigner x = Check.with(QUARTER, GREGORIAN, SHORT, PLAIN, "even 2 of 8;true 365 and 1 of 4;", "even 0 of 9;");
        due("28 quarter", 2, x.keeps(0));
        x.shift(0, 1);
        due("28 whatever it is", 2, x.keeps(0));
        due("28 every", -1, x.keeps(1));
        due("28 row", -1, x.keeps(2));
        due("28 none", -1, x.keeps(3));
        due("28 not in least terms", 4, x.keeps(4));
        due("28 all alike", 0, x.keeps(5));
        x.drop(0);
        due("28 not there", -1, x.keeps(0));
        // with half a day of beginning the drifts 0 .. 3/4 are about 0
        LeapDesigner y = Check.with("even 1 of 4 shift 3;true 365 and 1 of 4;begins 1 of 2;");
        due("28 begins", 0, y.keeps(0));
        LeapDesigner z = Check.with("even 999 of 1000;true 365 and 999 of 1000;");
        // the common year is S and 1: with 499 or 500 drift is 1 by 2 away at the most
        due("28 the longest", 498, z.keeps(0));
    }

    // ---- promise 29
    private static void dawns() {
        LeapDesigner x = Check.with(QUARTER, PLAIN, "true 364 and 0 of 1;begins 1 of 2;", "year 10;true 20 and 0 of 1;");
        due("29 least", 0, x.dawns(0, 0, 3, 0));
        due("29 greatest", 365, x.dawns(0, 0, 3, 1));
        due("29 others' years", 3, x.dawns(0, 0, 3, 2));
        due("29 plain", 0, x.dawns(1, -100, 100, 1));
        due("29 plain, own", 0, x.dawns(1, -100, 100, 2));
        due("29 earlier", 363, x.dawns(2, 2, 3, 1));
        due("29 earlier, least", 362, x.dawns(2, 2, 3, 0));
        due("29 earlier, count", 2, x.dawns(2, 2, 3, 2));
        due("29 later", 1, x.dawns(2, -1, 0, 1));
        due("29 day of the last YEAR", 0, x.dawns(3, 40000, 50000, 0));
        due("29 day of no YEAR", -1, x.dawns(3, 40000, 50001, 0));
        due("29 day of no YEAR, first", -1, x.dawns(3, -50001, -40000, 2));
        due("29 20000 between", 0, x.dawns(1, 0, 20000, 0));
        due("29 more between", -1, x.dawns(1, 0, 20001, 0));
        due("29 back", -1, x.dawns(1, 1, 0, 0));
        due("29 others", -1, x.dawns(1, 0, 1, 3));
        due("29 others below", -1, x.dawns(1, 0, 1, -1));
        due("29 year", -1, x.dawns(1, 100000, 100001, 0));
        due("29 not there", -1, x.dawns(4, 0, 1, 0));
    }

    // ---- promise 30
    private static void steady() {
        LeapDesigner x = Check.with(QUARTER, "true 366 and 0 of 1;", "begins 1 of 2;");
        due("30 how many", 1, x.steady(0, 0, 10, 0, 0));
        due("30 the first of like ones", 0, x.steady(0, 0, 10, 0, 1));
        due("30 all", 11, x.steady(0, 0, 10, 1, 0));
        due("30 about 0", 7, x.steady(1, -100, 100, 3, 0));
        due("30 about 0, first", -3, x.steady(1, -100, 100, 3, 1));
        due("30 without", 0, x.steady(1, 10, 100, 3, 0));
        due("30 without, first", -1, x.steady(1, 10, 100, 3, 1));
        due("30 begins", 0, x.steady(2, 0, 100, 0, 0));
        due("30 bound", NOTHING, x.steady(0, 0, 10, -1, 0));
        due("30 bound 10000", NOTHING, x.steady(0, 0, 10, 10000, 0));
        due("30 bound 9999", 11, x.steady(0, 0, 10, 9999, 0));
        due("30 20000 between", 20001, x.steady(0, 0, 20000, 9999, 0));
        due("30 more between", NOTHING, x.steady(0, 0, 20001, 9999, 0));
        due("30 back", NOTHING, x.steady(0, 1, 0, 1, 0));
        due("30 others", NOTHING, x.steady(0, 0, 10, 1, 2));
        due("30 not there", NOTHING, x.steady(3, 0, 10, 1, 0));
    }

    // ---- promise 31
    private static void gap() {
        LeapDesigner x = Check.with(GREGORIAN, PERSIAN, PLAIN, "row 9 4;", "row 10 0 1 5;", "row 6 0 1 2 3 4 5;");
        int[][] want = {{4, 8, 3}, {4, 5, 1}, {0, 0, 0}, {9, 9, 1}, {1, 5, 1}, {1, 1, 6}};
        for (int s = 0; s < want.length; s++) {
            for (int what = 0; what < 3; what++) {
                due("31 gap(" + s + ", " + what + ")", want[s][what], x.gap(s, what));
            }
            due("31 others", -1, x.gap(s, 3));
            due("31 others below", -1, x.gap(s, -1));
        }
        due("31 not there", -1, x.gap(6, 0));
    }

    // ---- promise 32
    private static void even() {
        LeapDesigner x = Check.with(GREGORIAN, PERSIAN, PLAIN, "row 9 4;", "row 5 0 2;", "row 6 0 2;");
        int[] want = {0, 1, 1, 1, 1, 0};
        for (int s = 0; s < want.length; s++) {
            due("32 even(" + s + ")", want[s], x.even(s));
        }
        x.drop(0);
        due("32 not there", -1, x.even(0));
    }

    // ---- promise 33
    private static void weeks() {
        LeapDesigner x = Check.with(GREGORIAN, PERSIAN, PLAIN, "every 4;", "every 4;week 9 at 0;", "year 364;");
        int[] want = {400, 231, 7, 28, 12, 1};
        for (int s = 0; s < want.length; s++) {
            due("33 weeks(" + s + ")", want[s], x.weeks(s));
        }
        x.drop(0);
        due("33 not there", -1, x.weeks(0));
    }

    // ---- promise 34
    private static void falls() {
        LeapDesigner x = Check.with(GREGORIAN, SHORT);
        due("34 new year", 56, x.falls(0, 0, 400, 0, 0, 0));
        due("34 new year, 1", 58, x.falls(0, 0, 400, 0, 0, 1));
        int leapDays = 0;
        for (int w = 0; w < 7; w++) {
            leapDays += x.falls(0, 0, 400, 1, 28, w);
        }
        due("34 where it is there", 97, leapDays);
        due("34 above the longest", -1, x.falls(0, 0, 1, 1, 29, 0));
        due("34 below", -1, x.falls(0, 0, 1, 1, -1, 0));
        due("34 not in a common one", 0, x.falls(0, 1, 1, 1, 28, 0));
        due("34 n 0", -1, x.falls(0, 0, 0, 0, 0, 0));
        // twelve cycles and 200 years of the thirteenth, which begins on weekday 0 again
        due("34 n 5000", 12 * 56 + x.falls(0, 0, 200, 0, 0, 0), x.falls(0, 0, 5000, 0, 0, 0));
        due("34 n 5001", -1, x.falls(0, 0, 5001, 0, 0, 0));
        due("34 month", -1, x.falls(0, 0, 1, 12, 0, 0));
        due("34 weekday", -1, x.falls(0, 0, 1, 0, 0, 7));
        due("34 weekday below", -1, x.falls(0, 0, 1, 0, 0, -1));
        due("34 to the last", 1, x.falls(0, 100000, 1, 0, 0, 0));
        due("34 past the last", -1, x.falls(0, 100000, 2, 0, 0, 0));
        due("34 short", 1, x.falls(1, 0, 1, 1, 0, 2));
        due("34 not there", -1, x.falls(2, 0, 1, 0, 0, 0));
    }

    // ---- promise 35
    private static void nth() {
        LeapDesigner x = Check.with(GREGORIAN, "week 1 at 0;");
        due("35 first", 1, x.nth(0, 0, 0, 1, 1, false));
        due("35 fifth", 28, x.nth(0, 0, 0, 0, 5, false));
        due("35 no sixth", NOTHING, x.nth(0, 0, 0, 0, 6, false));
        due("35 last", 28, x.nth(0, 0, 0, 0, 1, true));
        due("35 last, 3", 24, x.nth(0, 0, 0, 3, 1, true));
        due("35 fifth from the end", 0, x.nth(0, 0, 0, 0, 5, true));
        due("35 no sixth from the end", NOTHING, x.nth(0, 0, 0, 0, 6, true));
        due("35 200th", 199, x.nth(1, 0, 0, 0, 200, false));
        due("35 200th from the end", 165, x.nth(1, 0, 0, 0, 200, true));
        due("35 201st", NOTHING, x.nth(1, 0, 0, 0, 201, false));
        due("35 0th", NOTHING, x.nth(1, 0, 0, 0, 0, false));
        due("35 leap day", 59, x.nth(0, 0, 1, 3, 1, true));
        due("35 year", NOTHING, x.nth(0, 100001, 0, 0, 1, false));
        due("35 month", NOTHING, x.nth(0, 0, 12, 0, 1, false));
        due("35 weekday", NOTHING, x.nth(0, 0, 0, 7, 1, false));
        due("35 weekday below", NOTHING, x.nth(0, 0, 0, -1, 1, false));
        due("35 not there", NOTHING, x.nth(2, 0, 0, 0, 1, false));
    }

    // ---- promise 36
    private static void next() {
        LeapDesigner x = Check.with(GREGORIAN, SHORT, PLAIN, "every 9999;");
        due("36 behind", 4, x.next(0, 0, 1));
        due("36 over a gap", 104, x.next(0, 96, 1));
        due("36 ahead", 0, x.next(0, 4, -1));
        due("36 ahead, below 0", -4, x.next(0, 0, -1));
        due("36 from a common one", 0, x.next(0, 1, -1));
        due("36 97th", 400, x.next(0, 0, 97));
        due("36 row", 1, x.next(1, -1, 1));
        due("36 row, ahead", -1, x.next(1, 1, -1));
        due("36 k 0", NOTHING, x.next(0, 0, 0));
        due("36 k 1000", 4124, x.next(0, 0, 1000));
        due("36 k 1001", NOTHING, x.next(0, 0, 1001));
        due("36 k -1000", -4124, x.next(0, 0, -1000));
        due("36 k -1001", NOTHING, x.next(0, 0, -1001));
        due("36 none", NOTHING, x.next(2, 0, 1));
        due("36 the last one", 100000, x.next(0, 99999, 1));
        due("36 none past it", NOTHING, x.next(0, 99999, 2));
        due("36 the first one", -100000, x.next(0, -99999, -1));
        due("36 none ahead of it", NOTHING, x.next(0, -99999, -2));
        due("36 rare", 99990, x.next(3, 0, 10));
        due("36 rare, none", NOTHING, x.next(3, 0, 11));
        due("36 year", NOTHING, x.next(0, 100001, -1));
        due("36 not there", NOTHING, x.next(5, 0, 1));
    }

    // ---- promise 37
    private static void pattern() {
        LeapDesigner x = Check.with(GREGORIAN, "every 1;");
        due("37 bits", 273, x.pattern(0, 0, 9));
        due("37 from another", 0b10001000, x.pattern(0, 1, 8));
        due("37 62", (1L << 62) - 1, x.pattern(1, 0, 62));
        due("37 63", NOTHING, x.pattern(1, 0, 63));
        due("37 0", NOTHING, x.pattern(1, 0, 0));
        due("37 to the last", 1, x.pattern(1, 100000, 1));
        due("37 past the last", NOTHING, x.pattern(1, 100000, 2));
        due("37 year", NOTHING, x.pattern(1, -100001, 2));
        due("37 not there", NOTHING, x.pattern(2, 0, 1));
    }

    // ---- promise 38
    private static void busiest() {
        LeapDesigner x = Check.with(GREGORIAN, "months 300 60 5;");
        due("38 the first", 0, x.busiest(0, 0, 1, 0, 0, 0));
        // in YEAR 0 months 0, 3, 6 begin on weekday 0
        due("38 how often", 1, x.busiest(0, 0, 1, 0, 0, 1));
        due("38 5", 5, x.busiest(0, 0, 1, 0, 5, 0));
        due("38 day 30", 0, x.busiest(0, 0, 1, 30, 2, 0));
        int most = 0;
        for (int m = 0; m < 12; m++) {
            most = Math.max(most, x.falls(0, 0, 400, m, 12, 5));
        }
        due("38 400 years", most, x.busiest(0, 0, 400, 12, 5, 1));
        due("38 400 years, month", most, x.falls(0, 0, 400, (int) x.busiest(0, 0, 400, 12, 5, 0), 12, 5));
        due("38 in none", -1, x.busiest(0, 0, 1, 31, 0, 0));
        due("38 in none, how often", 0, x.busiest(0, 0, 1, 31, 0, 1));
        due("38 day 99", 0, x.busiest(1, 0, 1, 99, 1, 0));
        due("38 day 100", NOTHING, x.busiest(1, 0, 1, 100, 2, 0));
        due("38 day -1", NOTHING, x.busiest(1, 0, 1, -1, 2, 0));
        due("38 n 0", NOTHING, x.busiest(0, 0, 0, 0, 0, 0));
        due("38 n 5001", NOTHING, x.busiest(0, 0, 5001, 0, 0, 0));
        due("38 weekday", NOTHING, x.busiest(0, 0, 1, 0, 7, 0));
        due("38 past the last", NOTHING, x.busiest(0, 100000, 2, 0, 0, 0));
        due("38 others", NOTHING, x.busiest(0, 0, 1, 0, 0, 2));
        due("38 not there", NOTHING, x.busiest(2, 0, 1, 0, 0, 0));
    }

    // ---- promise 39
    private static void moons() {
        LeapDesigner x = Check.with(GREGORIAN, "year 1;", "year 10;");
        due("39 how many", 13, x.moons(0, 0, 295306, 10000, 0));
        due("39 first", 17, x.moons(0, 1, 295306, 10000, 1));
        due("39 last", 342, x.moons(0, 1, 295306, 10000, 2));
        due("39 none", 0, x.moons(1, 1, 2, 1, 0));
        due("39 none, first", -1, x.moons(1, 1, 2, 1, 1));
        due("39 none, last", -1, x.moons(1, 1, 2, 1, 2));
        due("39 below 0", 1, x.moons(1, -2, 2, 1, 0));
        // at 2 and 1 of 2 less: day -3; at 5 less: day -5; at 7 and 1 of 2: day -8; at 10: day -10
        due("39 below 0, cut down", 4, x.moons(2, -1, 5, 2, 0));
        due("39 below 0, last", 7, x.moons(2, -1, 5, 2, 2));
        due("39 2", 0, x.moons(0, 0, 200000, 100000, 1));
        due("39 less than 2", NOTHING, x.moons(0, 0, 199999, 100000, 0));
        due("39 1000", 1, x.moons(0, 0, 1000, 1, 0));
        due("39 more than 1000", NOTHING, x.moons(0, 0, 1001, 1, 0));
        due("39 p 10000000", 4, x.moons(0, 0, 10000000, 100000, 0));
        due("39 p above", NOTHING, x.moons(0, 0, 10000001, 100000, 0));
        due("39 q above", NOTHING, x.moons(0, 0, 3000000, 100001, 0));
        due("39 q 0", NOTHING, x.moons(0, 0, 30, 0, 0));
        due("39 q below", NOTHING, x.moons(0, 0, 30, -1, 0));
        due("39 p below", NOTHING, x.moons(0, 0, -30, -1, 0));
        due("39 others", NOTHING, x.moons(0, 0, 30, 1, 3));
        due("39 year", NOTHING, x.moons(0, 100001, 30, 1, 0));
        due("39 not there", NOTHING, x.moons(3, 0, 30, 1, 0));
    }

    // ---- promise 40
    private static void age() {
        LeapDesigner x = Check.with(GREGORIAN);
        due("40 ten", 10, x.age(0, 10, 295306, 10000));
        due("40 one", 1, x.age(0, 30, 295306, 10000));
        due("40 this day", 0, x.age(0, 29, 295306, 10000));
        due("40 below 0", 29, x.age(0, -1, 295306, 10000));
        due("40 below 0, this day", 0, x.age(0, -30, 295306, 10000));
        due("40 moon", NOTHING, x.age(0, 0, 1, 1));
        due("40 number", NOTHING, x.age(0, 36524250 + 366, 30, 1));
        due("40 far", NOTHING, x.age(0, Long.MAX_VALUE, 30, 1));
        due("40 not there", NOTHING, x.age(1, 0, 30, 1));
    }

    // ---- promise 41
    private static void meets() {
        LeapDesigner x = Check.with(GREGORIAN, PLAIN);
        due("41 at once", 0, x.meets(0, 0, 10, 0, 0, 295306, 10000));
        due("41 later", 2, x.meets(1, 1, 10, 0, 0, 730, 1));
        due("41 in none", NOTHING, x.meets(1, 1, 1, 0, 0, 730, 1));
        due("41 in the last", 2, x.meets(1, 1, 2, 0, 0, 730, 1));
        due("41 below 0", -2, x.meets(1, -3, 5, 0, 0, 730, 1));
        due("41 leap day", 0, x.meets(0, 0, 4, 1, 28, 59, 1));
        due("41 above the longest", NOTHING, x.meets(0, 0, 10, 1, 29, 2, 1));
        due("41 n 0", NOTHING, x.meets(0, 0, 0, 0, 0, 2, 1));
        due("41 n 5001", NOTHING, x.meets(0, 0, 5001, 0, 0, 2, 1));
        due("41 past the last", NOTHING, x.meets(0, 100000, 2, 0, 0, 2, 1));
        due("41 month", NOTHING, x.meets(0, 0, 1, 12, 0, 2, 1));
        due("41 moon", NOTHING, x.meets(0, 0, 1, 0, 0, 1, 1));
        due("41 not there", NOTHING, x.meets(2, 0, 1, 0, 0, 2, 1));
    }

    // ---- promise 42
    private static void join() {
        LeapDesigner x = Check.with(JULIAN, GREGORIAN);
        due("42 none yet", NOTHING, x.joined(0, 0));
        due("42 done", 1, x.join(0, 577737, 1, 1582, 9, 14));
        due("42 no change", 2, x.count(1));
        due("42 date", -2, x.join(0, 0, 1, 1, 1, 28));
        due("42 month", -2, x.join(0, 0, 1, 1, 12, 0));
        due("42 year", -2, x.join(0, 0, 1, 100001, 0, 0));
        due("42 number", -2, x.join(0, 36525000 + 366, 1, 0, 0, 0));
        due("42 last number", 1, x.join(0, 36525000 + 365, 1, 0, 0, 0));
        due("42 not there", -2, x.join(2, 0, 1, 0, 0, 0));
        due("42 the other not there", -2, x.join(0, 0, 2, 0, 0, 0));
        due("42 no slot", -2, x.join(0, 0, 6, 0, 0, 0));
        due("42 the same", 1, x.join(0, 10, 0, 7, 0, 0));
        due("42 the same, ahead", 0, x.joined(9, 0));
        due("42 the same, from it on", 7, x.joined(10, 0));
        x.drop(0);
        due("42 as it was", 7, x.joined(10, 0));
        due("42 refused", -2, x.join(0, 10, 1, 0, 0, 0));
        due("42 what was stays", 7, x.joined(10, 0));
    }

    private static LeapDesigner reform() {
        LeapDesigner x = Check.with(JULIAN, GREGORIAN);
        x.join(0, x.dated(0, 1582, 9, 4), 1, 1582, 9, 14);
        return x;
    }

    // ---- promise 43
    private static void joined() {
        LeapDesigner x = reform();
        long seam = x.dated(0, 1582, 9, 4);
        due("43 ahead", 3, x.joined(seam - 1, 3));
        due("43 from it on", 14, x.joined(seam, 3));
        due("43 month", 9, x.joined(seam, 2));
        due("43 year", 1582, x.joined(seam, 0));
        due("43 day of the year", 273 + 14, x.joined(seam, 1));
        due("43 weekday ahead", x.date(0, seam - 1, 4), x.joined(seam - 1, 4));
        due("43 weekday goes on", (x.date(0, seam - 1, 4) + 1) % 7, x.joined(seam, 4));
        due("43 others", NOTHING, x.joined(seam, 5));
        due("43 others ahead", NOTHING, x.joined(0, -1));
        due("43 first", -100000, x.joined(-36525000, 0));
        due("43 ahead of the first", NOTHING, x.joined(-36525001, 0));
        due("43 past the last", NOTHING, x.joined(36525000 + 366, 0));
        due("43 past the last of the second", NOTHING, x.joined(36525000 + 365, 0));
        due("43 past the last of the second, weekday", NOTHING, x.joined(36525000 + 365, 4));
        long end = x.dated(1, 100000, 11, 30) - x.dated(1, 1582, 9, 14) + seam;
        due("43 last of the second", 100000, x.joined(end, 0));
        due("43 last of the second, weekday", x.date(0, end, 4), x.joined(end, 4));
        due("43 behind the last of the second", NOTHING, x.joined(end + 1, 0));
        due("43 behind the last of the second, weekday", NOTHING, x.joined(end + 1, 4));
        due("43 past the last, weekday", NOTHING, x.joined(36525000 + 366, 4));
        due("43 far", NOTHING, x.joined(Long.MAX_VALUE, 0));
        due("43 far below", NOTHING, x.joined(Long.MIN_VALUE, 0));
        due("43 without", NOTHING, new LeapDesigner().joined(0, 0));
    }

    // ---- promise 44
    private static void often() {
        LeapDesigner x = reform();
        due("44 ahead", 1, x.often(1582, 9, 3));
        due("44 left out", 0, x.often(1582, 9, 4));
        due("44 left out, last", 0, x.often(1582, 9, 13));
        due("44 from it on", 1, x.often(1582, 9, 14));
        due("44 no leap day", 0, x.often(1900, 1, 28));
        due("44 leap day of the first", 1, x.often(1500, 1, 28));
        due("44 no such month", 0, x.often(1900, 12, 0));
        due("44 no such year", 0, x.often(100001, 0, 0));
        // day 100 is day 41 again
        x.join(0, 100, 0, 0, 1, 10);
        due("44 twice", 2, x.often(0, 2, 0));
        due("44 twice, first", 2, x.often(0, 1, 10));
        due("44 once", 1, x.often(0, 1, 9));
        due("44 once, ahead", 1, x.often(0, 0, 20));
        due("44 once, from it on", 1, x.often(0, 6, 0));
        due("44 without", -1, new LeapDesigner().often(0, 0, 0));
        LeapDesigner plain = Check.with("");
        plain.join(0, 1, 0, 0, 0, 0);
        due("44 last number of the first", 1, plain.often(100000, 0, 363));
        due("44 behind the last number of the first", 0, plain.often(100000, 0, 364));
        plain.join(0, 36500364, 0, 0, 0, 0);
        due("44 on the last number of the first, and ahead", 2, plain.often(0, 0, 0));
        due("44 behind it, but ahead", 1, plain.often(0, 0, 1));
    }

    // ---- promise 45
    private static void span() {
        LeapDesigner x = reform();
        due("45 over the seam", 1, x.span(1582, 9, 3, 1582, 9, 14));
        due("45 back", -1, x.span(1582, 9, 14, 1582, 9, 3));
        due("45 none", 0, x.span(0, 0, 0, 0, 0, 0));
        due("45 a year", 355, x.span(1582, 0, 0, 1583, 0, 0));
        due("45 left out", NOTHING, x.span(1582, 9, 3, 1582, 9, 10));
        due("45 left out first", NOTHING, x.span(1582, 9, 10, 1582, 9, 3));
        x.join(0, 40, 0, 0, 0, 20);
        // day 25 of month 0 is day 25 and again day 45
        due("45 the first day with it", 25, x.span(0, 0, 0, 0, 0, 25));
        due("45 the only day with it", 40 + 31 - 20 + 10, x.span(0, 0, 0, 0, 1, 10));
        due("45 without", NOTHING, new LeapDesigner().span(0, 0, 0, 0, 0, 0));
        LeapDesigner plain = Check.with("");
        plain.join(0, 1, 0, 0, 0, 0);
        due("45 to the last number of the first", 36500364, plain.span(0, 0, 0, 100000, 0, 363));
        due("45 behind it", NOTHING, plain.span(0, 0, 0, 100000, 0, 364));
        due("45 from behind it", NOTHING, plain.span(100000, 0, 364, 0, 0, 0));
    }

    // ---- promise 46
    private static void like() {
        LeapDesigner x = Check.with(PERSIAN, "even 8 of 33 shift 8;", GREGORIAN, "row 33 0 5 9 13 17 21 25 29;", "row 33 0;");
        due("46 later", 32, x.like(0, 1));
        due("46 back", 1, x.like(1, 0));
        due("46 itself", 0, x.like(0, 0));
        due("46 of another sort", 0, x.like(0, 3));
        due("46 by none", -1, x.like(0, 4));
        due("46 another cycle", -1, x.like(0, 2));
        due("46 not there", -1, x.like(0, 5));
        due("46 no slot", -1, x.like(-1, 0));
        LeapDesigner y = Check.with("every 1 not 4999 but 9998;", "every 1 not 9998;", "row 6 0 3;", "row 6 2 5;", "row 6 0 2 3 5;");
        Check.design(y, 5, "every 9999;");
        due("46 the longest", 0, y.like(5, 5));
        due("46 long cycles", 4999, y.like(0, 1));
        due("46 long cycles back", 4999, y.like(1, 0));
        due("46 fewest", 2, y.like(2, 3));
        due("46 fewest back", 1, y.like(3, 2));
        due("46 more of them", -1, y.like(2, 4));
    }

    // ---- promise 47
    private static void within() {
        LeapDesigner x = Check.with(GREGORIAN, "true 400 and 0 of 1;", "extra 2;true 366 and 0 of 1;", "true 366 and 0 of 1;",
            "true 364 and 1 of 2;", "true 365 and 1 of 2;");
        due("47 N", 29, x.within(0, 1000, 1, 0));
        due("47 K", 7, x.within(0, 1000, 1, 1));
        due("47 none", NOTHING, x.within(1, 1, 1, 0));
        due("47 all leap", 1, x.within(1, 1, 34, 0));
        due("47 all leap, K", 1, x.within(1, 1, 34, 1));
        due("47 like ones, the lesser", 0, x.within(2, 1, 1, 1));
        due("47 like ones, N", 1, x.within(2, 1, 1, 0));
        due("47 extra", 2, x.within(2, 2, 1, 0));
        due("47 extra, K", 1, x.within(2, 2, 1, 1));
        due("47 just", 1, x.within(3, 100000, 1, 1));
        due("47 below a year", 0, x.within(4, 2, 1, 1));
        due("47 below a year, none", NOTHING, x.within(4, 3, 1, 0));
        due("47 half", 2, x.within(5, 3, 1, 0));
        LeapDesigner y = Check.with("extra 30;true 365 and 3 of 100;", "extra 30;true 365 and 15 of 1000;");
        due("47 N 1000", 1000, y.within(0, 100000, 1, 0));
        due("47 N 1000, K", 1, y.within(0, 100000, 1, 1));
        due("47 no N to 1000", NOTHING, y.within(1, 100000, 1, 0));
        due("47 years 0", NOTHING, x.within(0, 0, 1, 0));
        due("47 years above", NOTHING, x.within(0, 100001, 1, 0));
        due("47 bound 0", NOTHING, x.within(0, 1, 0, 0));
        due("47 bound above", NOTHING, x.within(0, 1, 10000, 0));
        due("47 bound 9999", 1, x.within(0, 1, 9999, 0));
        due("47 others", NOTHING, x.within(0, 1000, 1, 2));
        x.drop(0);
        due("47 not there", NOTHING, x.within(0, 1000, 1, 0));
    }

    // ---- promise 48
    private static void asRow() {
        LeapDesigner x = Check.with(GREGORIAN, PERSIAN, "even 1 of 401;", PLAIN, SHORT);
        due("48 every", 400, x.asRow(0));
        due("48 sort", 3, x.has(0, 2));
        due("48 leaps", 97 * 500, x.leaps(0, -100000, 100000));
        due("48 even", 33, x.asRow(1));
        due("48 leap", 1, x.leap(1, 5));
        due("48 too long", -3, x.asRow(2));
        due("48 none", 1, x.asRow(3));
        due("48 none, sort", 3, x.has(3, 2));
        due("48 none, leap", 0, x.leap(3, 0));
        due("48 a row", 5, x.asRow(4));
        due("48 not there", -2, x.asRow(5));
        due("48 no slot", -2, x.asRow(6));
        due("48 changes", 9, x.count(1));
        x.undo();
        x.undo();
        due("48 undone", 0, x.has(3, 2));
    }

    // ---- promise 49
    private static void apart() {
        LeapDesigner x = Check.with(GREGORIAN, PERSIAN, JULIAN);
        due("49 alone", 4, x.apart(0, 1, 0, 10, 0));
        due("49 first", 4, x.apart(0, 1, 0, 10, 1));
        due("49 distance", 1, x.apart(0, 1, 0, 10, 2));
        due("49 first with it", 5, x.apart(0, 1, 0, 10, 3));
        due("49 julian", 3, x.apart(0, 2, 0, 399, 0));
        due("49 julian, distance", 3, x.apart(2, 0, 0, 400, 2));
        due("49 julian, first", 301, x.apart(2, 0, 0, 400, 3));
        due("49 below 0", 3, x.apart(2, 0, -400, -1, 2));
        due("49 below 0, first", -400, x.apart(2, 0, -400, -1, 3));
        due("49 without", -1, x.apart(0, 0, 3, 10, 1));
        due("49 without, alone", 0, x.apart(0, 0, 3, 10, 0));
        due("49 without, distance", 0, x.apart(0, 0, 3, 10, 2));
        due("49 without, year", 3, x.apart(0, 0, 3, 10, 3));
        due("49 20000 between", 150, x.apart(0, 2, 0, 20000, 0));
        due("49 more between", NOTHING, x.apart(0, 2, 0, 20001, 0));
        due("49 back", NOTHING, x.apart(0, 2, 1, 0, 0));
        due("49 others", NOTHING, x.apart(0, 2, 0, 1, 4));
        due("49 others below", NOTHING, x.apart(0, 2, 0, 1, -1));
        due("49 year", NOTHING, x.apart(0, 2, -100001, -99999, 0));
        due("49 not there", NOTHING, x.apart(0, 3, 0, 1, 0));
    }

    // ---- promise 50
    private static void best() {
        LeapDesigner x = new LeapDesigner();
        due("50 above", 8, x.best(1211, 5000, 33, 0));
        due("50 below", 33, x.best(1211, 5000, 33, 1));
        due("50 half, 0", 0, x.best(1, 2, 1, 0));
        due("50 half, by 1", 1, x.best(1, 2, 1, 1));
        due("50 on the way", 7, x.best(1211, 5000, 31, 0));
        due("50 itself in least terms", 2, x.best(4, 6, 100, 0));
        due("50 itself, below", 3, x.best(4, 6, 100, 1));
        // 1 by 3 is as near to 5 by 12 as 1 by 2
        due("50 like ones", 1, x.best(5, 12, 3, 0));
        due("50 like ones, the least lower number", 2, x.best(5, 12, 3, 1));
        due("50 zero", 1, x.best(0, 7, 5, 1));
        due("50 one", 1, x.best(7, 7, 5, 0));
        due("50 p above q", NOTHING, x.best(6, 5, 3, 0));
        due("50 p below", NOTHING, x.best(-1, 5, 3, 0));
        due("50 q 0", NOTHING, x.best(0, 0, 3, 0));
        due("50 q above", NOTHING, x.best(1, 1000001, 3, 0));
        due("50 n 0", NOTHING, x.best(1, 5, 0, 0));
        due("50 n 100000", 100000, x.best(1, 99999, 100000, 1) + 1);
        due("50 n above", NOTHING, x.best(1, 5, 100001, 0));
        due("50 part", NOTHING, x.best(1, 5, 3, 2));
        due("50 part below", NOTHING, x.best(1, 5, 3, -1));
    }

    // ---- promise 51
    private static void term() {
        LeapDesigner x = new LeapDesigner();
        due("51 how many", 10, x.term(1211, 5000, -1));
        due("51 first", 0, x.term(1211, 5000, 0));
        due("51 second", 4, x.term(1211, 5000, 1));
        due("51 third", 7, x.term(1211, 5000, 2));
        due("51 none", NOTHING, x.term(1211, 5000, 10));
        due("51 one term", 1, x.term(0, 7, -1));
        due("51 one", 1, x.term(7, 7, 0));
        due("51 half", 2, x.term(1, 2, -1));
        due("51 the last above 1", 2, x.term(1, 2, 1));
        due("51 below", NOTHING, x.term(1, 2, -2));
        due("51 p above q", NOTHING, x.term(3, 2, -1));
        due("51 q 0", NOTHING, x.term(0, 0, -1));
        due("51 q above", NOTHING, x.term(0, 1000001, -1));
        due("51 p below", NOTHING, x.term(-1, 2, 0));
    }

    // ---- promise 52
    private static void convergent() {
        LeapDesigner x = new LeapDesigner();
        due("52 0", 0, x.convergent(1211, 5000, 0, 0));
        due("52 0, below", 1, x.convergent(1211, 5000, 0, 1));
        due("52 1", 4, x.convergent(1211, 5000, 1, 1));
        due("52 2", 7, x.convergent(1211, 5000, 2, 0));
        due("52 2, below", 29, x.convergent(1211, 5000, 2, 1));
        due("52 3", 33, x.convergent(1211, 5000, 3, 1));
        due("52 9", 1211, x.convergent(2422, 10000, 9, 0));
        due("52 9, below", 5000, x.convergent(2422, 10000, 9, 1));
        due("52 10", NOTHING, x.convergent(1211, 5000, 10, 0));
        due("52 below", NOTHING, x.convergent(1211, 5000, -1, 0));
        due("52 part", NOTHING, x.convergent(1211, 5000, 0, 2));
        due("52 p above q", NOTHING, x.convergent(3, 2, 0, 0));
        due("52 q 0", NOTHING, x.convergent(0, 0, 0, 0));
    }

    // ---- promise 53
    private static void suggests() {
        LeapDesigner x = Check.with(GREGORIAN, "true 366 and 1 of 2;", "true 364 and 1 of 2;", "year 354;extra 30;true 365 and 2422 of 10000;",
            "extra 7;true 365 and 1 of 1000000;", "extra 7;true 365 and 999999 of 1000000;");
        due("53 K", 8, x.suggests(0, 33, 0));
        due("53 N", 33, x.suggests(0, 33, 1));
        due("53 a day off", 4459, x.suggests(0, 33, 2));
        due("53 above 1", NOTHING, x.suggests(1, 33, 0));
        due("53 below 0", NOTHING, x.suggests(2, 33, 0));
        // 11 and 2422 of 10000 by 30 is 56211 by 150000; 3 by 8 is 39 by 150000 away, of 30 days
        due("53 extra, K", 3, x.suggests(3, 8, 0));
        due("53 extra, N", 8, x.suggests(3, 8, 1));
        due("53 extra, a day off", 128, x.suggests(3, 8, 2));
        due("53 lower number above 1000000", NOTHING, x.suggests(4, 8, 0));
        due("53 lower number in least terms", 7, x.suggests(5, 8, 1));
        due("53 n 1", 0, x.suggests(0, 1, 0));
        due("53 n 1, a day off", 4, x.suggests(0, 1, 2));
        due("53 n 0", NOTHING, x.suggests(0, 0, 0));
        due("53 n 1000", 1, x.suggests(0, 1000, 1) <= 1000 ? 1 : 0);
        due("53 n 1001", NOTHING, x.suggests(0, 1001, 0));
        due("53 others", NOTHING, x.suggests(0, 33, 3));
        due("53 others below", NOTHING, x.suggests(0, 33, -1));
        x.truth(0, 365, 1, 4);
        due("53 none off", 0, x.suggests(0, 33, 2));
        x.truth(0, 366, 0, 1);
        due("53 one", 1, x.suggests(0, 33, 0));
        x.truth(0, 365, 0, 1);
        due("53 nothing above year", 0, x.suggests(0, 33, 0));
        due("53 nothing above year, by 1", 1, x.suggests(0, 33, 1));
        x.drop(0);
        due("53 not there", NOTHING, x.suggests(0, 33, 0));
    }
}
