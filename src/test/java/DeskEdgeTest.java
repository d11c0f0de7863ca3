/** Promises 1 to 16, a method a sentence that names an edge: the tape, the designs, what can be undone, what is written. */
public final class DeskEdgeTest {
    private static final Check CHECK = new Check("DeskEdgeTest");
    private static final long NOTHING = -1000000000000000L;
    private static final int[] OTHERS = {-1, Integer.MIN_VALUE, Integer.MAX_VALUE};

    public static void main(String[] args) {
        constants();
        newObject();
        feedBehind();
        feedByteOrder();
        feedFull();
        endOfTape();
        endRefused();
        designSlots();
        designTape();
        designFault();
        faultLatest();
        hasOthers();
        hasLaws();
        hasMonths();
        countFull();
        monthBounds();
        meanParts();
        copyRefused();
        copyMade();
        dropToNone();
        shiftBounds();
        shiftNoEven();
        truthBounds();
        undoNone();
        undoTwelve();
        undoRing();
        undoEach();
        undoNoChange();
        writeAll();
        writeNotThere();
        octetBounds();
        octetLatest();
        CHECK.end();
    }

    private static void due(String call, long want, long got) {
        CHECK.due(call, want, got);
    }

    private static void due(String call, boolean want, boolean got) {
        CHECK.due(call, want, got);
    }

    private static void text(String call, String want, LeapDesigner x, int s) {
        String got = Check.written(x, s);
        CHECK.due(call + ": '" + got + "'", true, want.equals(got));
    }

    private static void constants() {
        due("NONE", -1, LeapDesigner.NONE);
        due("NOTHING", NOTHING, LeapDesigner.NOTHING);
    }

    // ---- promise 1

    /** No DESIGNS; and nothing else yet, either. */
    private static void newObject() {
        LeapDesigner x = new LeapDesigner();
        due("1 DESIGNS", 0, x.count(0));
        due("1 changes", 0, x.count(1));
        for (int s = 0; s < 6; s++) {
            due("1 DESIGN " + s, -1, x.has(s, 0));
        }
        due("1 the tape", false, x.end(1));
        due("1 FAULT", 0, x.fault(0));
        due("1 its place", -1, x.fault(1));
        due("1 written", -1, x.octet(0));
        due("1 JOINED", NOTHING, x.joined(0, 0));
        due("1 JOINED, often", -1, x.often(0, 0, 0));
        due("1 nothing is shared with another object", 1, Check.with("").count(0));
        due("1 nothing is shared with another object, here", 0, x.count(0));
    }

    // ---- promise 2

    private static void feedBehind() {
        LeapDesigner x = new LeapDesigner();
        x.feed(0x20202020, 0x20202020, 0x20202020, 0x20202020, 0x20202020);
        x.end(3);
        // "year 12;" at 3
        due("2 behind those on the tape", 23, x.feed(0x79656172, 0x2031323b, 0x20202020, 0x20202020, 0x20202078));
        due("2 the text goes to 23", -1, x.design(0));
        due("2 its last byte", 22, x.fault(1));
    }

    private static void feedByteOrder() {
        for (int place = 0; place < 20; place++) {
            int[] five = {0x20202020, 0x20202020, 0x20202020, 0x20202020, 0x20202020};
            five[place / 4] ^= 0x21 << 24 - place % 4 * 8;
            LeapDesigner x = new LeapDesigner();
            x.feed(five[0], five[1], five[2], five[3], five[4]);
            x.design(0);
            due("2 byte " + place, place, x.fault(1));
        }
        LeapDesigner x = new LeapDesigner();
        // "year 7;extra 9;week " and "8 at 5;" and blanks
        x.feed(0x79656172, 0x20373b65, 0x78747261, 0x20393b77, 0x65656b20);
        x.feed(0x38206174, 0x20353b20, 0x20202020, 0x20202020, 0x20202020);
        due("2 twenty bytes in order", 1, x.design(0));
        due("2 twenty bytes in order, year", 7, x.has(0, 0));
        due("2 twenty bytes in order, extra", 9, x.has(0, 1));
        due("2 over two calls", 8, x.has(0, 5));
        due("2 over two calls, WEEKDAY", 5, x.has(0, 6));
    }

    private static LeapDesigner fed(int bytes) {
        LeapDesigner x = new LeapDesigner();
        for (int i = 0; i < 40; i++) {
            x.feed(0x20202020, 0x20202020, 0x20202020, 0x20202020, 0x20202020);
        }
        x.end(bytes);
        return x;
    }

    /** NONE, and none come, if there would be more than 800. */
    private static void feedFull() {
        due("2 from 780 to 800", 800, fed(780).feed(0, 0, 0, 0, 0));
        for (int bytes = 781; bytes <= 800; bytes++) {
            LeapDesigner x = fed(bytes);
            due("2 from " + bytes, -1, x.feed(-1, -1, -1, -1, -1));
            due("2 none come at " + bytes, false, x.end(bytes + 1));
            due("2 none go at " + bytes, true, x.end(bytes));
            due("2 those that were stay at " + bytes, 1, x.design(0));
        }
        LeapDesigner x = fed(800);
        due("2 800 are there", true, x.end(800));
        x.design(0);
        due("2 an emptied tape", 20, x.feed(0, 0, 0, 0, 0));
    }

    // ---- promise 3

    private static void endOfTape() {
        LeapDesigner x = new LeapDesigner();
        due("3 0 of none", true, x.end(0));
        due("3 1 of none", false, x.end(1));
        x = fed(800);
        due("3 801 of 800", false, x.end(801));
        due("3 800 of 800", true, x.end(800));
        due("3 799 of 800", true, x.end(799));
        due("3 800 of 799", false, x.end(800));
        due("3 0 of 799", true, x.end(0));
        due("3 1 of 0", false, x.end(1));
        due("3 an empty tape", 1, x.design(0));
    }

    /** False if it has not so many, or n is below 0: the tape stays as it was. */
    private static void endRefused() {
        LeapDesigner x = new LeapDesigner();
        Check.feed(x, "year 12;");
        due("3 one more", false, x.end(9));
        due("3 one below 0", false, x.end(-1));
        due("3 the least", false, x.end(Integer.MIN_VALUE));
        due("3 the greatest", false, x.end(Integer.MAX_VALUE));
        due("3 the tape is as it was", 1, x.design(0));
        due("3 the tape is as it was, year", 12, x.has(0, 0));
        // what stood behind the end does not come again
        Check.feed(x, "year 12;extra 2;");
        x.end(8);
        x.feed(0x20202020, 0x20202020, 0x20202020, 0x20202020, 0x20202020);
        x.design(0);
        due("3 the first n alone", 1, x.has(0, 1));
    }

    // ---- promise 4

    private static void designSlots() {
        LeapDesigner x = new LeapDesigner();
        for (int s = 0; s < 6; s++) {
            due("4 DESIGN " + s, 1, Check.design(x, s, "year " + (100 + s) + ";"));
        }
        due("4 all six are there", 6, x.count(0));
        for (int s = 0; s < 6; s++) {
            due("4 DESIGN " + s + " is its own", 100 + s, x.has(s, 0));
        }
        due("4 in place of what was there", 4, Check.design(x, 5, "every 4;"));
        due("4 in place of what was there, year", 365, x.has(5, 0));
        due("4 in place of what was there, others", 104, x.has(4, 0));
        due("4 still six", 6, x.count(0));
        due("4 CYCLE of no LAW", 1, Check.design(x, 0, ""));
        due("4 CYCLE of even, not the least", 4, Check.design(x, 0, "even 2 of 4;"));
        due("4 CYCLE of even without LEAP YEARS", 9, Check.design(x, 0, "even 0 of 9;"));
        due("4 CYCLE of every, the last number", 12, Check.design(x, 0, "every 2 not 4 but 12;"));
        due("4 CYCLE of row, not the least", 4, Check.design(x, 0, "row 4 0 2;"));
        due("4 CYCLE of a row with none", 400, Check.design(x, 0, "row 400;"));
    }

    /** The tape (it goes, if s can be); -2: no such s. */
    private static void designTape() {
        for (int s : new int[] {-1, 6, Integer.MIN_VALUE, Integer.MAX_VALUE}) {
            LeapDesigner x = new LeapDesigner();
            Check.feed(x, "year 12;");
            due("4 no DESIGN " + s, -2, x.design(s));
            due("4 none is made", 0, x.count(0));
            due("4 no change", 0, x.count(1));
            due("4 the tape stays", true, x.end(8));
            due("4 the tape stays, no more", false, x.end(9));
            due("4 it is a DESIGN then", 1, x.design(0));
            due("4 it is a DESIGN then, year", 12, x.has(0, 0));
            due("4 the tape goes", false, x.end(1));
        }
        LeapDesigner x = new LeapDesigner();
        due("4 a FAULT", -1, Check.design(x, 5, "year"));
        due("4 the tape goes with a FAULT", false, x.end(1));
        due("4 an empty tape is a DESIGN", 1, x.design(5));
    }

    /** NONE with a FAULT (all else stays). */
    private static void designFault() {
        LeapDesigner x = Check.with("year 12;", "every 4;");
        x.join(0, 5, 1, 0, 0, 0);
        x.write(1);
        due("4 a FAULT where one is", -1, Check.design(x, 0, "year 0;"));
        due("4 a FAULT where none is", -1, Check.design(x, 2, "year 0;"));
        due("4 stays: DESIGN", 12, x.has(0, 0));
        due("4 stays: no DESIGN", -1, x.has(2, 0));
        due("4 stays: count", 2, x.count(0));
        due("4 stays: changes", 2, x.count(1));
        due("4 stays: JOINED", 0, x.joined(5, 0));
        due("4 stays: written", '3', x.octet(5));
        due("4 stays: what is undone", 1, x.undo());
        due("4 stays: the other is undone", -1, x.has(1, 0));
        due("4 stays: the first is not", 12, x.has(0, 0));
    }

    // ---- promise 5

    private static void faultLatest() {
        LeapDesigner x = new LeapDesigner();
        due("5 ahead of any", 0, x.fault(0));
        due("5 ahead of any, place", -1, x.fault(1));
        x.design(6);
        due("5 a -2 ahead of any", 0, x.fault(0));
        due("5 a -2 ahead of any, place", -1, x.fault(1));
        Check.design(x, 0, "x");
        due("5 place 0", 0, x.fault(1));
        Check.design(x, 0, "extra 31;");
        due("5 of the latest", 2, x.fault(0));
        due("5 of the latest, place", 6, x.fault(1));
        Check.feed(x, "year 3;");
        x.design(-1);
        due("5 not of a -2", 2, x.fault(0));
        due("5 not of a -2, place", 6, x.fault(1));
        x.copy(1, 0);
        x.undo();
        due("5 not of others", 2, x.fault(0));
        due("5 the tape of then", 1, x.design(0));
        due("5 0 without", 0, x.fault(0));
        due("5 NONE without", -1, x.fault(1));
        for (int what : OTHERS) {
            due("5 others", -1, x.fault(what));
        }
        due("5 others, 2", -1, x.fault(2));
    }

    // ---- promise 6

    private static void hasOthers() {
        LeapDesigner x = Check.with("even 2 of 5 shift 3;", "every 4;", "row 4 1;", "");
        for (int s = 0; s < 4; s++) {
            for (int what : OTHERS) {
                due("6 others of " + s, -1, x.has(s, what));
            }
            due("6 others of " + s + ", 12", -1, x.has(s, 12));
        }
        for (int what = 0; what < 12; what++) {
            due("6 not there, " + what, -1, x.has(4, what));
        }
    }

    private static void hasLaws() {
        LeapDesigner x = Check.with("even 0 of 5;", "even 5 of 5 shift 4;", "every 1;", "row 1;", "row 1 0;", "");
        int[] sorts = {1, 1, 2, 3, 3, 0};
        int[] cycles = {5, 5, 1, 1, 1, 1};
        int[] leaps = {0, 5, 1, 0, 1, 0};
        for (int s = 0; s < 6; s++) {
            due("6 sort of " + s, sorts[s], x.has(s, 2));
            due("6 CYCLE of " + s, cycles[s], x.has(s, 7));
            due("6 LEAP YEARS of " + s, leaps[s], x.has(s, 8));
            due("6 K of " + s, s > 1 ? -1 : s == 0 ? 0 : 5, x.has(s, 9));
            due("6 N of " + s, s > 1 ? -1 : 5, x.has(s, 10));
            due("6 S of " + s, s > 1 ? -1 : s == 0 ? 0 : 4, x.has(s, 11));
        }
        LeapDesigner y = Check.with("every 1 not 2;", "every 9999;", "every 2 not 4 but 8 not 16 but 32 not 64;");
        due("6 every 1 not 2", 1, y.has(0, 8));
        due("6 every 9999", 1, y.has(1, 8));
        // of 64: 32 - 16 + 8 - 4 + 2 - 1
        due("6 six of every", 21, y.has(2, 8));
    }

    private static void hasMonths() {
        LeapDesigner x = Check.with("", "year 15;months 1 1 1 1 1 1 1 1 1 1 1 1 1 1 1;", "months 300 65 leap 0;", "week 1 at 0;",
            "week 10 at 9;", "year 1;extra 30;");
        int[][] want = {{365, 1, 1, 0, 7, 0}, {15, 1, 15, 14, 7, 0}, {365, 1, 2, 0, 7, 0}, {365, 1, 1, 0, 1, 0}, {365, 1, 1, 0, 10, 9},
            {1, 30, 1, 0, 7, 0}};
        int[] whats = {0, 1, 3, 4, 5, 6};
        for (int s = 0; s < 6; s++) {
            for (int i = 0; i < whats.length; i++) {
                due("6 has(" + s + ", " + whats[i] + ")", want[s][i], x.has(s, whats[i]));
            }
        }
    }

    // ---- promise 7

    private static void countFull() {
        LeapDesigner x = new LeapDesigner();
        for (int s = 0; s < 6; s++) {
            due("7 there are", s, x.count(0));
            due("7 can be undone", s, x.count(1));
            x.design(s);
        }
        due("7 all six", 6, x.count(0));
        for (int changes = 7; changes <= 20; changes++) {
            x.truth(0, changes, 0, 1);
            due("7 can be undone, 12 at most", Math.min(12, changes), x.count(1));
        }
        x.drop(0);
        due("7 one less", 5, x.count(0));
        for (int what : OTHERS) {
            due("7 others", -1, x.count(what));
        }
        due("7 others, 2", -1, x.count(2));
    }

    // ---- promise 8

    private static void monthBounds() {
        LeapDesigner x = Check.with("extra 30;every 4;months 100 265 leap 0;", "year 15;months 1 1 1 1 1 1 1 1 1 1 1 1 1 1 1;", "");
        due("8 the first", 100, x.month(0, 0, false));
        due("8 the first with the extra days", 130, x.month(0, 0, true));
        due("8 the last", 265, x.month(0, 1, false));
        due("8 the last without the extra days", 265, x.month(0, 1, true));
        due("8 behind the last", -1, x.month(0, 2, false));
        due("8 behind the last, leap", -1, x.month(0, 2, true));
        due("8 ahead of the first", -1, x.month(0, -1, false));
        due("8 the greatest", -1, x.month(0, Integer.MAX_VALUE, true));
        due("8 the least", -1, x.month(0, Integer.MIN_VALUE, true));
        due("8 the fifteenth", 1, x.month(1, 14, false));
        due("8 the fifteenth, leap", 2, x.month(1, 14, true));
        due("8 the fourteenth, leap", 1, x.month(1, 13, true));
        due("8 the sixteenth", -1, x.month(1, 15, true));
        due("8 one MONTH", 365, x.month(2, 0, false));
        due("8 one MONTH, leap", 366, x.month(2, 0, true));
        due("8 one MONTH, the second", -1, x.month(2, 1, true));
        due("8 not there", -1, x.month(3, 0, true));
    }

    // ---- promise 9

    private static void meanParts() {
        LeapDesigner x = Check.with("year 999;extra 30;every 1;true 999 and 999999 of 1000000;", "true 0 and 0 of 1000000;even 0 of 6;",
            "year 1;even 2 of 4;true 1 and 2 of 4;");
        due("9 mean, the greatest", 1029, x.mean(0, false, 0));
        due("9 mean, the greatest, below", 1, x.mean(0, false, 1));
        due("9 true, the greatest", 999999999, x.mean(0, true, 0));
        due("9 true, the greatest, below", 1000000, x.mean(0, true, 1));
        due("9 0 is 0", 0, x.mean(1, true, 0));
        due("9 0 is by 1", 1, x.mean(1, true, 1));
        due("9 without LEAP YEARS", 365, x.mean(1, false, 0));
        due("9 without LEAP YEARS, below", 1, x.mean(1, false, 1));
        due("9 least terms", 3, x.mean(2, false, 0));
        due("9 least terms, below", 2, x.mean(2, false, 1));
        due("9 true in least terms", 3, x.mean(2, true, 0));
        due("9 true in least terms, below", 2, x.mean(2, true, 1));
        for (int part : OTHERS) {
            due("9 no part", NOTHING, x.mean(0, true, part));
            due("9 no part of the mean", NOTHING, x.mean(0, false, part));
        }
        due("9 no part 2", NOTHING, x.mean(0, true, 2));
        due("9 no part 2 of the mean", NOTHING, x.mean(0, false, 2));
        due("9 not there", NOTHING, x.mean(3, false, 0));
    }

    // ---- promise 10

    private static void copyRefused() {
        LeapDesigner x = Check.with("year 12;", "year 13;");
        int[][] refused = {{0, 0}, {1, 1}, {2, 2}, {0, 2}, {2, 3}, {6, 0}, {-1, 0}, {0, 6}, {0, -1}, {6, 6}, {Integer.MAX_VALUE, 0},
            {0, Integer.MIN_VALUE}};
        for (int[] pair : refused) {
            due("10 copy(" + pair[0] + ", " + pair[1] + ")", -2, x.copy(pair[0], pair[1]));
        }
        due("10 refused: year", 12, x.has(0, 0));
        due("10 refused: the other's year", 13, x.has(1, 0));
        due("10 refused: none made", 2, x.count(0));
        due("10 refused: no change", 2, x.count(1));
    }

    private static void copyMade() {
        String told = "year 12;extra 2;even 1 of 4 shift 3;months 5 7 leap 0;week 3 at 2;true 12 and 1 of 2;begins 1 of 3;";
        LeapDesigner x = Check.with(told, "");
        due("10 made", 1, x.copy(5, 0));
        due("10 made: count", 3, x.count(0));
        text("10 just as the other one", told, x, 5);
        due("10 in place of one", 1, x.copy(1, 0));
        text("10 just as the other one, in place", told, x, 1);
        due("10 in place: count", 3, x.count(0));
        due("10 two changes", 4, x.count(1));
        // neither follows the other from then on
        x.shift(5, 1);
        x.truth(1, 7, 0, 1);
        x.asRow(1);
        text("10 the one copied stays", told, x, 0);
        x.drop(0);
        due("10 it is there without the other", 12, x.has(5, 0));
        due("10 it is there without the other, S", 1, x.has(5, 11));
    }

    // ---- promise 11

    private static void dropToNone() {
        LeapDesigner x = Check.with("", "", "", "", "", "");
        for (int left = 5; left >= 0; left--) {
            due("11 left", left, x.drop(left));
            due("11 there no more", -1, x.has(left, 0));
            due("11 again", -2, x.drop(left));
            due("11 counted", left, x.count(0));
        }
        due("11 changes", 12, x.count(1));
        x = Check.with("");
        for (int s : new int[] {-1, 1, 5, 6, Integer.MIN_VALUE, Integer.MAX_VALUE}) {
            due("11 none such: " + s, -2, x.drop(s));
        }
        due("11 refused: no change", 1, x.count(1));
        due("11 refused: it stays", 1, x.count(0));
    }

    // ---- promise 12

    private static void shiftBounds() {
        LeapDesigner x = Check.with("even 1 of 4 shift 2;", "even 1 of 1;", "even 0 of 1000;");
        due("12 below 0", -2, x.shift(0, -1));
        due("12 N", -2, x.shift(0, 4));
        due("12 the least", -2, x.shift(0, Integer.MIN_VALUE));
        due("12 the greatest", -2, x.shift(0, Integer.MAX_VALUE));
        due("12 refused: S stays", 2, x.has(0, 11));
        due("12 refused: no change", 3, x.count(1));
        due("12 0, what it was", 2, x.shift(0, 0));
        due("12 0", 0, x.has(0, 11));
        due("12 N less 1, what it was", 0, x.shift(0, 3));
        due("12 N less 1", 3, x.has(0, 11));
        due("12 as it was", 3, x.shift(0, 3));
        due("12 as it was is a change, too", 6, x.count(1));
        due("12 K stays", 1, x.has(0, 9));
        due("12 N stays", 4, x.has(0, 10));
        due("12 of 1: 0", 0, x.shift(1, 0));
        due("12 of 1: 1", -2, x.shift(1, 1));
        due("12 of 1000: 999", 0, x.shift(2, 999));
        due("12 of 1000: 1000", -2, x.shift(2, 1000));
    }

    private static void shiftNoEven() {
        LeapDesigner x = Check.with("every 4;", "row 4 1;", "", "even 1 of 4;");
        for (int s = 0; s < 3; s++) {
            due("12 no even one: " + s, -3, x.shift(s, 0));
        }
        due("12 an even one", 0, x.shift(3, 0));
        x.asRow(3);
        due("12 an even one no more", -3, x.shift(3, 0));
        due("12 no such s", -2, x.shift(6, 0));
        due("12 no such s, below", -2, x.shift(-1, 0));
        due("12 not there", -2, x.shift(4, 0));
        due("12 no changes", 6, x.count(1));
    }

    // ---- promise 13

    private static void truthBounds() {
        String told = "year 365;extra 1;months 365 leap 0;week 7 at 0;true 5 and 1 of 2;begins 1 of 3;";
        LeapDesigner x = Check.with("true 5 and 1 of 2;begins 1 of 3;");
        int[][] refused = {{-1, 0, 1}, {1000, 0, 1}, {5, -1, 2}, {5, 2, 2}, {5, 3, 2}, {5, 0, 0}, {5, 0, -1}, {5, 0, 1000001},
            {5, 1000000, 1000000}, {5, 1, 1}, {Integer.MAX_VALUE, 0, 1}, {Integer.MIN_VALUE, 0, 1}, {5, Integer.MIN_VALUE, 1},
            {5, Integer.MAX_VALUE, Integer.MAX_VALUE}, {5, 0, Integer.MIN_VALUE}};
        for (int[] n : refused) {
            due("13 truth(" + n[0] + ", " + n[1] + ", " + n[2] + ")", -2, x.truth(0, n[0], n[1], n[2]));
        }
        text("13 refused: it stays", told, x, 0);
        due("13 refused: no change", 1, x.count(1));
        int[][] taken = {{0, 0, 1}, {999, 0, 1}, {5, 1, 2}, {5, 0, 1000000}, {5, 999999, 1000000}, {5, 0, 2}};
        for (int[] n : taken) {
            due("13 truth(" + n[0] + ", " + n[1] + ", " + n[2] + ") is taken", 1, x.truth(0, n[0], n[1], n[2]));
            text("13 it is so", told.replace("true 5 and 1 of 2", "true " + n[0] + " and " + n[1] + " of " + n[2]), x, 0);
        }
        due("13 changes", 7, x.count(1));
        due("13 not there", -2, x.truth(1, 5, 0, 1));
    }

    // ---- promise 14

    private static void undoNone() {
        LeapDesigner x = new LeapDesigner();
        due("14 none can be", -3, x.undo());
        due("14 none can be, again", -3, x.undo());
        due("14 none: count", 0, x.count(1));
        x.design(0);
        due("14 one", 0, x.undo());
        due("14 none any more", -3, x.undo());
        due("14 none any more: DESIGNS", 0, x.count(0));
        x.design(0);
        due("14 one behind that", 1, x.count(1));
    }

    /** The last 12. */
    private static void undoTwelve() {
        for (int changes = 11; changes <= 14; changes++) {
            LeapDesigner x = new LeapDesigner();
            x.design(0);
            for (int i = 1; i < changes; i++) {
                x.truth(0, i, 0, 1);
            }
            int can = Math.min(12, changes);
            for (int left = can - 1; left >= 0; left--) {
                due("14 of " + changes + " changes", left, x.undo());
            }
            due("14 of " + changes + " changes, no more", -3, x.undo());
            due("14 of " + changes + " changes, there", changes <= 12 ? 0 : 1, x.count(0));
            due("14 of " + changes + " changes, what is left", changes <= 12 ? NOTHING : changes == 13 ? 365 : 1, x.mean(0, true, 0));
        }
    }

    /** Changes come in place of undone ones, over and over. */
    private static void undoRing() {
        LeapDesigner x = new LeapDesigner();
        x.design(0);
        int[] kept = new int[200];
        int top = 0;
        kept[0] = 365;
        int can = 1;
        for (int round = 1; round <= 25; round++) {
            for (int i = 0; i < 5; i++) {
                top++;
                kept[top] = round * 10 + i;
                x.truth(0, kept[top], 0, 1);
                can = Math.min(12, can + 1);
            }
            for (int i = 0; i < round % 5; i++) {
                top--;
                can--;
                due("14 in round " + round, can, x.undo());
                due("14 in round " + round + ", what it was", kept[top], x.mean(0, true, 0));
            }
        }
        for (int left = can - 1; left >= 0; left--) {
            top--;
            due("14 at the end", left, x.undo());
            due("14 at the end, what it was", kept[top], x.mean(0, true, 0));
        }
        due("14 at the end, no more", -3, x.undo());
    }

    private static void undoEach() {
        LeapDesigner x = Check.with("even 1 of 4 shift 1;", "year 9;");
        String first = Check.written(x, 0);
        String second = Check.written(x, 1);
        Check.design(x, 0, "year 5;");
        x.undo();
        text("14 design() in place of one", first, x, 0);
        Check.design(x, 2, "year 5;");
        x.undo();
        due("14 design() where none was", -1, x.has(2, 0));
        x.copy(1, 0);
        x.undo();
        text("14 copy() in place of one", second, x, 1);
        x.copy(3, 0);
        x.undo();
        due("14 copy() where none was", -1, x.has(3, 0));
        x.drop(1);
        x.undo();
        text("14 drop()", second, x, 1);
        x.shift(0, 3);
        x.undo();
        text("14 shift()", first, x, 0);
        x.truth(0, 1, 1, 2);
        x.undo();
        text("14 truth()", first, x, 0);
        x.asRow(0);
        x.undo();
        text("14 asRow()", first, x, 0);
        due("14 each once", 2, x.count(1));
        // undo is no change itself
        due("14 undo of the second design()", 1, x.undo());
        due("14 undo of the first design()", 0, x.undo());
        due("14 none is there", 0, x.count(0));
        due("14 none can be", -3, x.undo());
    }

    /** Of calls that were done: refused ones and those that only ask are none. */
    private static void undoNoChange() {
        LeapDesigner x = Check.with("even 1 of 4 shift 1;", "every 500;");
        Check.design(x, 0, "x");
        x.design(6);
        x.copy(0, 0);
        x.drop(5);
        x.shift(0, 4);
        x.shift(1, 0);
        x.truth(0, 1000, 0, 1);
        x.asRow(1);
        x.asRow(5);
        x.write(0);
        x.join(0, 0, 1, 0, 0, 0);
        x.keeps(0);
        x.like(0, 1);
        x.feed(0, 0, 0, 0, 0);
        x.end(0);
        due("14 refused and asking calls", 2, x.count(1));
        due("14 the latest that was done", 1, x.undo());
        due("14 the latest that was done, gone", -1, x.has(1, 0));
        due("14 JOINED is not undone", 0, x.joined(0, 0));
        due("14 written is not undone", 'y', x.octet(0));
    }

    // ---- promise 15

    private static void writeAll() {
        String[] told = {
            "year 365;extra 1;months 365 leap 0;week 7 at 0;true 365 and 0 of 1;begins 0 of 1;",
            "year 1;extra 1;even 0 of 1 shift 0;months 1 leap 0;week 1 at 0;true 0 and 0 of 1;begins 0 of 1;",
            "year 999;extra 30;even 1000 of 1000 shift 999;months 1 998 leap 0;week 10 at 9;true 999 and 999999 of 1000000;begins 999 of 1000;",
            "year 15;extra 1;every 1 not 2 but 4 not 8 but 16 not 9984;months 1 1 1 1 1 1 1 1 1 1 1 1 1 1 1 leap 14;week 7 at 6;"
                + "true 15 and 2 of 4;begins 2 of 4;",
            "year 365;extra 1;every 9999;months 365 leap 0;week 7 at 0;true 365 and 0 of 1;begins 0 of 1;",
            "year 365;extra 1;row 1 0;months 365 leap 0;week 7 at 0;true 365 and 0 of 1;begins 0 of 1;",
            "year 365;extra 1;row 400;months 365 leap 0;week 7 at 0;true 365 and 0 of 1;begins 0 of 1;",
            "year 365;extra 1;row 400 0 399;months 365 leap 0;week 7 at 0;true 365 and 0 of 1;begins 0 of 1;",
        };
        for (String want : told) {
            LeapDesigner x = Check.with(want);
            due("15 bytes", want.length(), x.write(0));
            text("15 text", want, x, 0);
        }
        LeapDesigner x = Check.with("even 400 of 400 shift 7;");
        x.asRow(0);
        StringBuilder row = new StringBuilder("year 365;extra 1;row 400");
        for (int year = 0; year < 400; year++) {
            row.append(' ').append(year);
        }
        row.append(";months 365 leap 0;week 7 at 0;true 365 and 0 of 1;begins 0 of 1;");
        due("15 more bytes than the tape has", row.length(), x.write(0));
        due("15 its last byte", ';', x.octet(row.length() - 1));
        due("15 its last number", '9', x.octet(row.indexOf(";months") - 1));
        due("15 the tape is not written on", false, x.end(1));
    }

    private static void writeNotThere() {
        LeapDesigner x = Check.with("year 12;");
        int length = x.write(0);
        for (int s : new int[] {-1, 1, 5, 6, Integer.MIN_VALUE, Integer.MAX_VALUE}) {
            due("15 not there: " + s, -1, x.write(s));
        }
        due("15 what was written stays", '1', x.octet(5));
        due("15 what was written stays, its last byte", ';', x.octet(length - 1));
        due("15 what was written stays, its end", -1, x.octet(length));
    }

    // ---- promise 16

    private static void octetBounds() {
        LeapDesigner x = Check.with("");
        due("16 nothing is written", -1, x.octet(0));
        int length = x.write(0);
        due("16 the first", 'y', x.octet(0));
        due("16 the last", ';', x.octet(length - 1));
        due("16 behind the last", -1, x.octet(length));
        due("16 ahead of the first", -1, x.octet(-1));
        due("16 the greatest", -1, x.octet(Integer.MAX_VALUE));
        due("16 the least", -1, x.octet(Integer.MIN_VALUE));
    }

    /** Of what was written latest: of a longer text nothing is left, and no change reaches it. */
    private static void octetLatest() {
        LeapDesigner x = Check.with("true 365 and 2422 of 10000;", "year 2;");
        int longer = x.write(0);
        int shorter = x.write(1);
        due("16 shorter", true, shorter < longer);
        due("16 behind the shorter one", -1, x.octet(shorter));
        due("16 the last of the shorter one", ';', x.octet(shorter - 1));
        due("16 the shorter one's year", '2', x.octet(5));
        Check.design(x, 1, "year 3;");
        x.drop(0);
        x.undo();
        due("16 as it was written", '2', x.octet(5));
        x.write(1);
        due("16 as it is written again", '3', x.octet(5));
    }
}
