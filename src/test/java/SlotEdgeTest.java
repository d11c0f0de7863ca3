import java.util.ArrayList;
import java.util.List;

/**
 * DESIGNS are 0 .. 5, each there or not, and YEARS -100000 .. 100000: every call that takes one is asked at the
 * last that is taken, at the first that is not, and with a DESIGN that is not there. A refused call leaves all as it was.
 */
public final class SlotEdgeTest {
    private static final Check CHECK = new Check("SlotEdgeTest");
    private static final long NOTHING = -1000000000000000L;
    private static final int[] NO_SLOTS = {-1, 6, 7, Integer.MIN_VALUE, Integer.MAX_VALUE};
    private static final int[] NO_YEARS = {-100001, 100001, -100002, 100002, Integer.MIN_VALUE, Integer.MAX_VALUE};
    private static final String TEXT = "year 30;even 1 of 4;months 10 20 leap 0;week 7 at 3;true 30 and 1 of 4;begins 1 of 4;";

    private interface Call {
        long on(LeapDesigner x, int argument);
    }

    /** A call that fills a slot takes one in which nothing is. */
    private record Named(String name, long refusal, boolean fills, Call call) {
    }

    private static final List<Named> BY_SLOT = new ArrayList<>();
    private static final List<Named> BY_YEAR = new ArrayList<>();

    public static void main(String[] args) {
        slotCalls();
        otherCalls();
        yearCalls();
        stretchCalls();
        for (Named named : BY_SLOT) {
            slots(named);
        }
        for (Named named : BY_YEAR) {
            years(named);
        }
        CHECK.due("calls by DESIGN", 53, BY_SLOT.size());
        CHECK.due("calls by YEAR", 30, BY_YEAR.size());
        oftenAndSpan();
        CHECK.end();
    }

    private static void slot(String name, long refusal, Call call) {
        BY_SLOT.add(new Named(name, refusal, false, call));
    }

    private static void filling(String name, long refusal, Call call) {
        BY_SLOT.add(new Named(name, refusal, true, call));
    }

    private static void year(String name, long refusal, Call call) {
        BY_YEAR.add(new Named(name, refusal, false, call));
    }

    private static void slotCalls() {
        filling("design", -2, (x, s) -> x.design(s));
        slot("has", -1, (x, s) -> x.has(s, 0));
        slot("month", -1, (x, s) -> x.month(s, 0, false));
        slot("mean", NOTHING, (x, s) -> x.mean(s, false, 0));
        slot("mean, true", NOTHING, (x, s) -> x.mean(s, true, 0));
        slot("drop", -2, (x, s) -> x.drop(s));
        slot("shift", -2, (x, s) -> x.shift(s, 1));
        slot("truth", -2, (x, s) -> x.truth(s, 1, 0, 1));
        slot("write", -1, (x, s) -> x.write(s));
        slot("leap", -1, (x, s) -> x.leap(s, 0));
        slot("leaps", -1, (x, s) -> x.leaps(s, 0, 4));
        slot("leaps, back", -1, (x, s) -> x.leaps(s, 4, 0));
        slot("start", NOTHING, (x, s) -> x.start(s, 0));
        slot("number", NOTHING, (x, s) -> x.number(s, 0, 0));
        slot("date", NOTHING, (x, s) -> x.date(s, 0, 0));
        slot("dated", NOTHING, (x, s) -> x.dated(s, 0, 0, 0));
        slot("later", NOTHING, (x, s) -> x.later(s, 0, 0, 0, 1));
        slot("drift", NOTHING, (x, s) -> x.drift(s, 0, 0));
        slot("extreme", NOTHING, (x, s) -> x.extreme(s, 0, 1, true, 0));
        slot("passes", -1, (x, s) -> {
            x.truth(s, 31, 0, 1);
            return x.passes(s, 1);
        });
        slot("keeps", -1, (x, s) -> x.keeps(s));
        slot("dawns", -1, (x, s) -> x.dawns(s, 0, 1, 0));
        slot("steady", NOTHING, (x, s) -> x.steady(s, 0, 1, 0, 0));
        slot("gap", -1, (x, s) -> x.gap(s, 0));
        slot("even", -1, (x, s) -> x.even(s));
        slot("weeks", -1, (x, s) -> x.weeks(s));
        slot("falls", -1, (x, s) -> x.falls(s, 0, 1, 0, 0, 0));
        slot("nth", NOTHING, (x, s) -> x.nth(s, 0, 0, 0, 1, false));
        slot("next", NOTHING, (x, s) -> x.next(s, 0, 1));
        slot("pattern", NOTHING, (x, s) -> x.pattern(s, 0, 1));
        slot("busiest", NOTHING, (x, s) -> x.busiest(s, 0, 1, 0, 0, 0));
        slot("moons", NOTHING, (x, s) -> x.moons(s, 0, 30, 1, 0));
        slot("age", NOTHING, (x, s) -> x.age(s, 0, 30, 1));
        slot("meets", NOTHING, (x, s) -> x.meets(s, 0, 1, 0, 0, 30, 1));
        slot("within", NOTHING, (x, s) -> x.within(s, 1, 1, 0));
        slot("asRow", -2, (x, s) -> x.asRow(s));
        slot("suggests", NOTHING, (x, s) -> x.suggests(s, 4, 0));
    }

    /** Calls with two DESIGNS: slot 1 has one, and so one is asked for in the other place. */
    private static void otherCalls() {
        filling("copy to", -2, (x, s) -> x.copy(s, 1));
        slot("copy of", -2, (x, s) -> x.copy(2, s));
        slot("taken from", NOTHING, (x, s) -> x.taken(s, 0, 1, 0, 0));
        slot("taken to", NOTHING, (x, s) -> x.taken(1, 0, s, 0, 0));
        slot("join, the first", -2, (x, s) -> x.join(s, 0, 1, 0, 0, 0));
        slot("join, the second", -2, (x, s) -> x.join(1, 0, s, 0, 0, 0));
        slot("join, both", -2, (x, s) -> x.join(s, 0, s, 0, 0, 0));
        slot("like, the first", -1, (x, s) -> x.like(s, 1));
        slot("like, the second", -1, (x, s) -> x.like(1, s));
        slot("like, both", -1, (x, s) -> x.like(s, s));
        slot("apart, the first", NOTHING, (x, s) -> x.apart(s, 1, 0, 1, 0));
        slot("apart, the second", NOTHING, (x, s) -> x.apart(1, s, 0, 1, 0));
        slot("apart, the first, START", NOTHING, (x, s) -> x.apart(s, 1, 0, 1, 2));
        slot("apart, the second, START", NOTHING, (x, s) -> x.apart(1, s, 0, 1, 2));
        slot("apart, both", NOTHING, (x, s) -> x.apart(s, s, 0, 1, 3));
        slot("taken, both", NOTHING, (x, s) -> x.taken(s, 0, s, 0, 0));
    }

    private static void yearCalls() {
        year("leap", -1, (x, y) -> x.leap(0, y));
        year("leaps from", -1, (x, y) -> x.leaps(0, y, 100000));
        year("leaps to", -1, (x, y) -> x.leaps(0, -100000, y));
        year("leaps back from", -1, (x, y) -> x.leaps(0, y, -100000));
        year("leaps back to", -1, (x, y) -> x.leaps(0, 100000, y));
        year("start", NOTHING, (x, y) -> x.start(0, y));
        year("number", NOTHING, (x, y) -> x.number(0, y, 0));
        year("dated", NOTHING, (x, y) -> x.dated(0, y, 0, 0));
        year("later from", NOTHING, (x, y) -> x.later(0, y, 0, 0, y > 0 ? -1 : 1));
        year("later to", NOTHING, (x, y) -> x.later(0, y > 0 ? 1 : -1, 0, 0, y > 0 ? y - 1 : y + 1));
        year("drift", NOTHING, (x, y) -> x.drift(0, y, 0));
        year("nth", NOTHING, (x, y) -> x.nth(0, y, 0, 0, 1, false));
        year("nth, last", NOTHING, (x, y) -> x.nth(0, y, 0, 0, 1, true));
        year("next", NOTHING, (x, y) -> x.next(0, y, y > 0 ? -1 : 1));
        year("moons", NOTHING, (x, y) -> x.moons(0, y, 2, 1, 0));
        year("join", -2, (x, y) -> x.join(0, 0, 0, y, 0, 0));
    }

    /** From one YEAR on to another one, or n of them. */
    private static void stretchCalls() {
        year("extreme from", NOTHING, (x, y) -> x.extreme(0, y, Math.max(y, Math.min(y + 1, 100000)), true, 2));
        year("extreme to", NOTHING, (x, y) -> x.extreme(0, Math.min(y, Math.max(y - 1, -100000)), y, true, 2));
        year("dawns from", -1, (x, y) -> x.dawns(1, y, Math.max(y, Math.min(y + 1, 100000)), 0));
        year("dawns to", -1, (x, y) -> x.dawns(1, Math.min(y, Math.max(y - 1, -100000)), y, 0));
        year("steady from", NOTHING, (x, y) -> x.steady(0, y, Math.max(y, Math.min(y + 1, 100000)), 0, 0));
        year("steady to", NOTHING, (x, y) -> x.steady(0, Math.min(y, Math.max(y - 1, -100000)), y, 0, 0));
        year("apart from", NOTHING, (x, y) -> x.apart(0, 1, y, Math.max(y, Math.min(y + 1, 100000)), 0));
        year("apart to", NOTHING, (x, y) -> x.apart(0, 1, Math.min(y, Math.max(y - 1, -100000)), y, 2));
        year("falls", -1, (x, y) -> x.falls(0, y, 1, 0, 0, 0));
        year("falls, the last", -1, (x, y) -> x.falls(0, y - 1 < -100000 ? y : y - 1, y - 1 < -100000 ? 1 : 2, 0, 0, 0));
        year("pattern", NOTHING, (x, y) -> x.pattern(0, y, 1));
        year("pattern, the last", NOTHING, (x, y) -> x.pattern(0, y - 1 < -100000 ? y : y - 1, y - 1 < -100000 ? 1 : 2));
        year("busiest", NOTHING, (x, y) -> x.busiest(0, y, 1, 0, 0, 1));
        year("meets", NOTHING, (x, y) -> x.meets(1, y, 1, 0, 0, 2, 1));
    }

    /** Six texts in which 0, 1, 4 and 5 are there, 2 was dropped and 3 never was. */
    private static LeapDesigner desk() {
        LeapDesigner x = Check.with(TEXT, "year 30;row 4 0;months 10 20;true 30 and 0 of 1;", "");
        Check.design(x, 4, TEXT);
        Check.design(x, 5, TEXT);
        x.drop(2);
        x.join(0, 5, 1, 0, 1, 0);
        x.write(1);
        return x;
    }

    private static void slots(Named named) {
        for (int s : new int[] {0, 4, 5}) {
            answered(named, s);
        }
        for (int s : new int[] {2, 3}) {
            if (named.fills) {
                answered(named, s);
            } else {
                refused(named, s);
            }
        }
        for (int s : NO_SLOTS) {
            refused(named, s);
        }
    }

    private static void years(Named named) {
        for (int y : new int[] {-100000, 100000}) {
            answered(named, y);
        }
        for (int y : NO_YEARS) {
            refused(named, y);
        }
    }

    private static void answered(Named named, int argument) {
        long answer = named.call.on(desk(), argument);
        CHECK.due(named.name + " of " + argument + " is " + answer, true, answer != named.refusal);
    }

    private static void refused(Named named, int argument) {
        LeapDesigner x = desk();
        CHECK.due(named.name + " of " + argument, named.refusal, named.call.on(x, argument));
        String left = print(x);
        CHECK.due("what " + named.name + " of " + argument + " leaves: " + left, true, left.equals(print(desk())));
    }

    /** All that can be seen of an object, in some 200 calls. */
    private static String print(LeapDesigner x) {
        StringBuilder seen = new StringBuilder();
        seen.append(x.count(0)).append(' ').append(x.count(1)).append(' ').append(x.fault(0)).append(' ').append(x.fault(1));
        for (int i = 0; i < 40; i++) {
            seen.append((char) x.octet(i));
        }
        seen.append(x.joined(4, 0)).append(x.joined(5, 2)).append(x.joined(6, 3)).append(x.often(0, 1, 0));
        for (int s = 0; s < 6; s++) {
            seen.append('\n');
            for (int what = 0; what < 12; what++) {
                seen.append(x.has(s, what)).append(' ');
            }
            seen.append(x.mean(s, true, 0)).append(' ').append(x.drift(s, 3, 0)).append(' ').append(x.pattern(s, 0, 8)).append(' ');
            seen.append(x.month(s, 0, true)).append(' ').append(x.month(s, 1, true));
        }
        return seen.append(' ').append(x.undo()).append(x.has(2, 0)).append(x.end(1)).toString();
    }

    /** A date of no YEAR is on no day: 0 and NOTHING. */
    private static void oftenAndSpan() {
        LeapDesigner x = desk();
        x.join(1, 0, 1, 0, 0, 0);
        for (int y : new int[] {-100000, 100000}) {
            CHECK.due("often of YEAR " + y, 1, x.often(y, 0, 0));
            CHECK.due("span from YEAR " + y, true, x.span(y, 0, 0, 0, 0, 0) != NOTHING);
            CHECK.due("span to YEAR " + y, true, x.span(0, 0, 0, y, 0, 0) != NOTHING);
        }
        for (int y : NO_YEARS) {
            CHECK.due("often of YEAR " + y, 0, x.often(y, 0, 0));
            CHECK.due("span from YEAR " + y, NOTHING, x.span(y, 0, 0, 0, 0, 0));
            CHECK.due("span to YEAR " + y, NOTHING, x.span(0, 0, 0, y, 0, 0));
        }
    }
}
