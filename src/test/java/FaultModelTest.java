/** Texts by chance, broken here and there: the program's FAULT and its place against those of FaultModel. */
public final class FaultModelTest {
    private static final Check CHECK = new Check("FaultModelTest");
    private static final String[] WORDS = {"year", "extra", "even", "of", "shift", "every", "not", "but", "row", "months", "leap", "week", "at",
        "true", "and", "begins", ";", " ", "\n", "0", "1", "2", "4", "6", "7", "8", "10", "11", "15", "16", "30", "31", "32", "64", "365", "400", "401",
        "999", "1000", "1001", "9999", "10000", "1000000", "1000001", "9999999", "00000001", "x", "z", "A", "\t", "\u00ff", "year 5;", "row 4;"};
    private static final String[] AHEAD = {"every 1 not 2 but 4 not 8 but 16 not 32 but 64;", "every 3 not 6 but 12 not 24 but 48 not 96 but 97;",
        "months 1 1 1 1 1 1 1 1 1 1 1 1 1 1 1 1;", "months 24 24 24 24 24 24 24 24 24 24 25 25 25 25 25 1 leap 3;", "year 365;", "extra 2;",
        "week 7 at 3;", "begins 1 of 2;", "true 365 and 1 of 4;", "row 9 2 4;", "even 2 of 5;"};

    public static void main(String[] args) {
        int[] seen = new int[6];
        for (int seed = 1; seed <= Integer.getInteger("texts", 20000); seed++) {
            Dice dice = new Dice(seed);
            String text = dice.once(6) ? mumbled(dice) : broken(dice);
            seen[compare(text)]++;
        }
        for (int fault = 0; fault <= 5; fault++) {
            CHECK.due("texts with FAULT " + fault, true, seen[fault] > 50);
        }
        CHECK.end();
    }

    private static int compare(String text) {
        FaultModel model = new FaultModel(text);
        LeapDesigner x = new LeapDesigner();
        int answer = Check.design(x, 0, text);
        CHECK.due("design of '" + text + "'", model.fault() == 0, answer >= 1);
        CHECK.due("fault(0) of '" + text + "'", model.fault(), x.fault(0));
        CHECK.due("fault(1) of '" + text + "'", model.place(), x.fault(1));
        return model.fault();
    }

    /** A text that is one, changed in a place or two, now and then with a statement more ahead of it. */
    private static String broken(Dice dice) {
        StringBuilder text = new StringBuilder(dice.once(6) ? AHEAD[dice.from(0, AHEAD.length - 1)] : "");
        text.append(dice.spoken(dice.model()));
        int times = dice.from(0, 3);
        for (int i = 0; i < times; i++) {
            int from = dice.from(0, text.length());
            int to = Math.min(text.length(), from + (dice.coin() ? 0 : dice.from(0, 5)));
            text.replace(from, to, dice.once(3) ? "" : (dice.coin() ? " " : "") + WORDS[dice.from(0, WORDS.length - 1)] + (dice.coin() ? " " : ""));
        }
        return text.substring(0, Math.min(text.length(), 800));
    }

    private static String mumbled(Dice dice) {
        StringBuilder text = new StringBuilder();
        int tokens = dice.from(0, 12);
        for (int i = 0; i < tokens; i++) {
            text.append(WORDS[dice.from(0, WORDS.length - 1)]).append(dice.once(5) ? "" : " ");
        }
        return text.toString();
    }
}
