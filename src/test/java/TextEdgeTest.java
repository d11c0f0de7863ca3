/**
 * Terms I, a method a sentence: of each number the last value that is taken and the first that is not, what is
 * empty, what is full, which FAULT comes first. A ^ marks the place at which the FAULT is due; it is not in the text.
 */
public final class TextEdgeTest {
    private static final Check CHECK = new Check("TextEdgeTest");
    private static final String YEAR = "year 365;extra 1;";
    private static final String MONTHS = "months 365 leap 0;";
    private static final String WEEK = "week 7 at 0;";
    private static final String TRUE = "true 365 and 0 of 1;";
    private static final String BEGINS = "begins 0 of 1;";
    private static final String REST = MONTHS + WEEK + TRUE + BEGINS;

    public static void main(String[] args) {
        untold();
        year();
        extra();
        even();
        every();
        everyMultiples();
        row();
        months();
        monthsTogether();
        monthsLeap();
        week();
        trueYear();
        begins();
        upperAgainstLower();
        onceAtMost();
        digits();
        blanks();
        blanksNeeded();
        words();
        endsTooSoon();
        leastPlace();
        onePlace();
        fullTape();
        CHECK.end();
    }

    // ---- helpers

    /** The text is a design, and is told again by these words. */
    private static void taken(String text, int cycle, String told) {
        LeapDesigner x = new LeapDesigner();
        CHECK.due("design of '" + text + "'", cycle, Check.design(x, 0, text));
        CHECK.due("fault(0) of '" + text + "'", 0, x.fault(0));
        CHECK.due("fault(1) of '" + text + "'", -1, x.fault(1));
        CHECK.due("'" + text + "' told again: " + Check.written(x, 0), true, told.equals(Check.written(x, 0)));
    }

    /** The marked text has this FAULT at its mark; the design that was there stays, and so does all else. */
    private static void fault(int fault, String marked) {
        int place = marked.indexOf('^');
        String text = marked.substring(0, place) + marked.substring(place + 1);
        LeapDesigner x = Check.with("year 77;");
        CHECK.due("design of '" + text + "'", -1, Check.design(x, 0, text));
        CHECK.due("fault(0) of '" + text + "'", fault, x.fault(0));
        CHECK.due("fault(1) of '" + text + "'", place, x.fault(1));
        CHECK.due("what was there ahead of '" + text + "'", 77, x.has(0, 0));
        CHECK.due("how many there were ahead of '" + text + "'", 1, x.count(0));
        CHECK.due("how many changes there were ahead of '" + text + "'", 1, x.count(1));
        CHECK.due("the tape behind '" + text + "'", false, x.end(1));
    }

    private static String times(String text, int n) {
        return text.repeat(n);
    }

    // ---- what is not told

    private static void untold() {
        taken("", 1, YEAR + REST);
        taken(" ", 1, YEAR + REST);
        taken("even 2 of 5;", 5, YEAR + "even 2 of 5 shift 0;" + REST);
        taken("year 300;", 1, "year 300;extra 1;months 300 leap 0;" + WEEK + TRUE + BEGINS);
        taken("months 300 60 5;", 1, YEAR + "months 300 60 5 leap 2;" + WEEK + TRUE + BEGINS);
        LeapDesigner x = Check.with("");
        CHECK.due("without a LAW: its sort", 0, x.has(0, 2));
        CHECK.due("without a LAW: LEAP YEARS", 0, x.leaps(0, -100000, 100000));
    }

    // ---- one number after the other

    private static void year() {
        taken("year 1;", 1, "year 1;extra 1;months 1 leap 0;" + WEEK + TRUE + BEGINS);
        taken("year 999;", 1, "year 999;extra 1;months 999 leap 0;" + WEEK + TRUE + BEGINS);
        fault(2, "year ^0;");
        fault(2, "year ^1000;");
        fault(2, "year ^9999999;");
    }

    private static void extra() {
        taken("extra 1;", 1, YEAR + REST);
        taken("extra 30;", 1, "year 365;extra 30;" + REST);
        fault(2, "extra ^0;");
        fault(2, "extra ^31;");
    }

    private static void even() {
        taken("even 0 of 1;", 1, YEAR + "even 0 of 1 shift 0;" + REST);
        taken("even 1 of 1;", 1, YEAR + "even 1 of 1 shift 0;" + REST);
        taken("even 0 of 1000;", 1000, YEAR + "even 0 of 1000 shift 0;" + REST);
        taken("even 1000 of 1000 shift 999;", 1000, YEAR + "even 1000 of 1000 shift 999;" + REST);
        taken("even 7 of 7 shift 0;", 7, YEAR + "even 7 of 7 shift 0;" + REST);
        taken("even 3 of 7 shift 6;", 7, YEAR + "even 3 of 7 shift 6;" + REST);
        taken("even 1 of 1 shift 0;", 1, YEAR + "even 1 of 1 shift 0;" + REST);
        fault(2, "even 0 of ^0;");
        fault(2, "even 1 of ^0;");
        fault(2, "even 1 of ^1001;");
        fault(2, "even ^2 of 1;");
        fault(2, "even ^8 of 7;");
        fault(2, "even 3 of 7 shift ^7;");
        fault(2, "even 3 of 7 shift ^8;");
        fault(2, "even 1 of 1 shift ^1;");
        fault(2, "even 0 of 1000 shift ^1000;");
    }

    private static void every() {
        taken("every 1;", 1, YEAR + "every 1;" + REST);
        taken("every 9999;", 9999, YEAR + "every 9999;" + REST);
        fault(2, "every ^0;");
        fault(2, "every ^10000;");
        // one to six numbers
        taken("every 2 not 4;", 4, YEAR + "every 2 not 4;" + REST);
        taken("every 2 not 4 but 8;", 8, YEAR + "every 2 not 4 but 8;" + REST);
        taken("every 2 not 4 but 8 not 16;", 16, YEAR + "every 2 not 4 but 8 not 16;" + REST);
        taken("every 2 not 4 but 8 not 16 but 32;", 32, YEAR + "every 2 not 4 but 8 not 16 but 32;" + REST);
        taken("every 2 not 4 but 8 not 16 but 32 not 64;", 64, YEAR + "every 2 not 4 but 8 not 16 but 32 not 64;" + REST);
        fault(4, "every 2 not 4 but 8 not 16 but 32 not 64 but ^128;");
        fault(4, "every 2 not 4 but 8 not 16 but 32 not 64 but ^128");
        fault(4, "every 2 not 4 but 8 not 16 but 32 not 64 but ^128 not 256;");
        // not and but take turns
        fault(1, "every 2 ^but 4;");
        fault(1, "every 2 not 4 ^not 8;");
        fault(1, "every 2 not 4 but 8 ^but 16;");
        fault(1, "every 2 not 4 but 8 not 16 but 32 not 64 ^not 128;");
    }

    private static void everyMultiples() {
        taken("every 1 not 2;", 2, YEAR + "every 1 not 2;" + REST);
        taken("every 1 not 9999;", 9999, YEAR + "every 1 not 9999;" + REST);
        taken("every 4999 not 9998;", 9998, YEAR + "every 4999 not 9998;" + REST);
        taken("every 3 not 9 but 9999;", 9999, YEAR + "every 3 not 9 but 9999;" + REST);
        fault(2, "every 1 not ^0;");
        fault(2, "every 1 not ^1;");
        fault(2, "every 1 not ^10000;");
        fault(2, "every 5000 not ^10000;");
        fault(2, "every 6 not ^3;");
        fault(2, "every 6 not ^6;");
        fault(2, "every 6 not ^7;");
        fault(2, "every 6 not ^11;");
        fault(2, "every 6 not ^13;");
        taken("every 6 not 12;", 12, YEAR + "every 6 not 12;" + REST);
        // each is asked against the one ahead, not against the first
        fault(2, "every 2 not 6 but ^8;");
        fault(2, "every 2 not 6 but ^6;");
        fault(2, "every 2 not 4 but 8 not ^8;");
        fault(2, "every 2 not 4 but 8 not ^20;");
        fault(2, "every 2 not 4 but 8 not 16 but ^16;");
        fault(2, "every 2 not 4 but 8 not 16 but ^40;");
        fault(2, "every 2 not 4 but 8 not 16 but 32 not ^32;");
        fault(2, "every 2 not 4 but 8 not 16 but 32 not ^80;");
    }

    private static void row() {
        taken("row 1;", 1, YEAR + "row 1;" + REST);
        taken("row 1 0;", 1, YEAR + "row 1 0;" + REST);
        taken("row 400;", 400, YEAR + "row 400;" + REST);
        taken("row 400 0;", 400, YEAR + "row 400 0;" + REST);
        taken("row 400 399;", 400, YEAR + "row 400 399;" + REST);
        taken("row 5 0 1 2 3 4;", 5, YEAR + "row 5 0 1 2 3 4;" + REST);
        taken("row 5 2 3;", 5, YEAR + "row 5 2 3;" + REST);
        taken("row 5 2 4;", 5, YEAR + "row 5 2 4;" + REST);
        fault(2, "row ^0;");
        fault(2, "row ^401;");
        fault(2, "row 1 ^1;");
        fault(2, "row 5 ^5;");
        fault(2, "row 400 ^400;");
        fault(2, "row 5 2 ^2;");
        fault(2, "row 5 2 ^1;");
        fault(2, "row 5 0 ^0;");
        fault(2, "row 5 2 ^5;");
        fault(2, "row 5 4 ^4;");
        fault(2, "row 5 0 1 2 3 4 ^5;");
        fault(2, "row 1 0 ^0;");
    }

    private static void months() {
        taken("year 1;months 1;", 1, "year 1;extra 1;months 1 leap 0;" + WEEK + TRUE + BEGINS);
        taken("year 999;months 999;", 1, "year 999;extra 1;months 999 leap 0;" + WEEK + TRUE + BEGINS);
        taken("year 999;months 1 998;", 1, "year 999;extra 1;months 1 998 leap 1;" + WEEK + TRUE + BEGINS);
        String fifteen = times(" 1", 15);
        taken("year 15;months" + fifteen + ";", 1, "year 15;extra 1;months" + fifteen + " leap 14;" + WEEK + TRUE + BEGINS);
        fault(4, "year 16;months" + fifteen + " ^1;");
        fault(4, "year 15;months" + fifteen + " ^1;");
        fault(4, "year 16;months" + fifteen + " ^1");
        fault(4, "year 16;months" + fifteen + " ^1 leap 0;");
        fault(2, "months ^0;");
        fault(2, "months ^1000;");
        fault(2, "months 300 ^0;");
        fault(2, "months 300 ^1000;");
        fault(2, "months 300 64 ^0 1;");
        fault(1, "months^;");
        fault(1, "months ^leap 0;");
    }

    private static void monthsTogether() {
        taken("months 300 65;", 1, YEAR + "months 300 65 leap 1;" + WEEK + TRUE + BEGINS);
        fault(5, "months 300 64;^");
        fault(5, "months 300 66;^");
        fault(5, "months 366;^");
        fault(5, "months 999 999;^");
        // year as told, ahead or behind
        taken("year 20;months 8 12;", 1, "year 20;extra 1;months 8 12 leap 1;" + WEEK + TRUE + BEGINS);
        taken("months 8 12;year 20;", 1, "year 20;extra 1;months 8 12 leap 1;" + WEEK + TRUE + BEGINS);
        fault(5, "year 19;months 8 12;^");
        fault(5, "year 21;months 8 12;^");
        fault(5, "months 8 12;year 21;^");
        fault(5, "months 365;year 364;^");
        // without extra
        fault(5, "year 20;extra 1;every 1;months 8 13;^");
        fault(5, "months 364;  \n^");
    }

    private static void monthsLeap() {
        taken("months 365 leap 0;", 1, YEAR + REST);
        taken("months 300 60 5 leap 0;", 1, YEAR + "months 300 60 5 leap 0;" + WEEK + TRUE + BEGINS);
        taken("months 300 60 5 leap 2;", 1, YEAR + "months 300 60 5 leap 2;" + WEEK + TRUE + BEGINS);
        fault(2, "months 365 leap ^1;");
        fault(2, "months 300 60 5 leap ^3;");
        String fifteen = times(" 1", 15);
        taken("year 15;months" + fifteen + " leap 14;", 1,
            "year 15;extra 1;months" + fifteen + " leap 14;" + WEEK + TRUE + BEGINS);
        fault(2, "year 15;months" + fifteen + " leap ^15;");
        fault(1, "months 365 leap^;");
        fault(1, "months 365 leap 0 ^leap 0;");
    }

    private static void week() {
        taken("week 1 at 0;", 1, YEAR + MONTHS + "week 1 at 0;" + TRUE + BEGINS);
        taken("week 10 at 0;", 1, YEAR + MONTHS + "week 10 at 0;" + TRUE + BEGINS);
        taken("week 10 at 9;", 1, YEAR + MONTHS + "week 10 at 9;" + TRUE + BEGINS);
        taken("week 4 at 3;", 1, YEAR + MONTHS + "week 4 at 3;" + TRUE + BEGINS);
        fault(2, "week ^0 at 0;");
        fault(2, "week ^11 at 0;");
        fault(2, "week 1 at ^1;");
        fault(2, "week 4 at ^4;");
        fault(2, "week 10 at ^10;");
        fault(1, "week 7^;");
        fault(1, "week 7 ^0;");
    }

    private static void trueYear() {
        taken("true 0 and 0 of 1;", 1, YEAR + MONTHS + WEEK + "true 0 and 0 of 1;" + BEGINS);
        taken("true 999 and 0 of 1;", 1, YEAR + MONTHS + WEEK + "true 999 and 0 of 1;" + BEGINS);
        taken("true 1 and 0 of 1000000;", 1, YEAR + MONTHS + WEEK + "true 1 and 0 of 1000000;" + BEGINS);
        taken("true 1 and 999999 of 1000000;", 1, YEAR + MONTHS + WEEK + "true 1 and 999999 of 1000000;" + BEGINS);
        taken("true 1 and 6 of 7;", 1, YEAR + MONTHS + WEEK + "true 1 and 6 of 7;" + BEGINS);
        fault(2, "true ^1000 and 0 of 1;");
        fault(2, "true 1 and ^1 of 1;");
        fault(2, "true 1 and ^7 of 7;");
        fault(2, "true 1 and ^8 of 7;");
        fault(2, "true 1 and ^1000000 of 1000000;");
        fault(2, "true 1 and 0 of ^0;");
        fault(2, "true 1 and 0 of ^1000001;");
    }

    private static void begins() {
        taken("begins 0 of 1000;", 1, YEAR + MONTHS + WEEK + TRUE + "begins 0 of 1000;");
        taken("begins 999 of 1000;", 1, YEAR + MONTHS + WEEK + TRUE + "begins 999 of 1000;");
        taken("begins 0 of 1;", 1, YEAR + REST);
        taken("begins 6 of 7;", 1, YEAR + MONTHS + WEEK + TRUE + "begins 6 of 7;");
        fault(2, "begins ^1 of 1;");
        fault(2, "begins ^7 of 7;");
        fault(2, "begins ^8 of 7;");
        fault(2, "begins ^1000 of 1000;");
        fault(2, "begins 0 of ^0;");
        fault(2, "begins 0 of ^1001;");
    }

    /** A K, a P is asked against its N, Q as soon as that is read and can be; above 1000, 1000000, 1000 at once. */
    private static void upperAgainstLower() {
        // at once, whatever comes behind
        fault(2, "even ^1001");
        fault(2, "even ^1001 of 0;");
        fault(2, "even ^1001 of 1001;");
        fault(2, "even ^1001 x");
        fault(2, "true 1 and ^1000001");
        fault(2, "true 1 and ^1000001 of 1000001;");
        fault(2, "begins ^1001");
        fault(2, "begins ^1001 of 1001;");
        // not at once
        fault(1, "even 1000^");
        fault(1, "even 1000 ^x");
        fault(1, "even 1000 of^");
        fault(2, "even 1000 of ^1001;");
        fault(1, "true 1 and 1000000^");
        fault(2, "true 1 and 1000000 of ^1000001;");
        fault(1, "begins 1000^");
        fault(2, "begins 1000 of ^1001;");
        // as soon as it is read, whatever comes behind
        fault(2, "even ^5 of 4");
        fault(2, "even ^5 of 4 x");
        fault(2, "even ^5 of 4 shift 4;");
        fault(2, "true 1 and ^4 of 4");
        fault(2, "true 1 and ^4 of 4 x");
        fault(2, "begins ^4 of 4");
        fault(2, "begins ^4 of 4 of");
        // and can be
        fault(2, "even 5 of ^0;");
        fault(2, "true 1 and 5 of ^0;");
        fault(2, "begins 5 of ^0;");
        fault(1, "even 5 of ^00000004;");
        fault(1, "even 5 of^");
        fault(1, "even 5 of ^;");
    }

    private static void onceAtMost() {
        String[] all = {"year 365;", "extra 1;", "even 1 of 4;", "months 365;", "week 7 at 0;", "true 365 and 0 of 1;", "begins 0 of 1;"};
        String whole = String.join("", all);
        taken(whole, 4, YEAR + "even 1 of 4 shift 0;" + REST);
        for (String statement : all) {
            fault(3, statement + "^" + statement);
            fault(3, whole + "^" + statement);
        }
        String[] laws = {"even 1 of 4;", "every 4;", "row 4 0;"};
        for (String law : laws) {
            for (String other : laws) {
                fault(3, law + "^" + other);
                fault(3, law + "extra 2; \n^" + other);
            }
        }
        // at its word, whatever comes behind that
        fault(3, "year 5;^year");
        fault(3, "year 5;^year x");
        fault(3, "year 5;^year 0;");
        fault(3, "even 1 of 4;^every 0;");
    }

    private static void digits() {
        taken("year 0000001;", 1, "year 1;extra 1;months 1 leap 0;" + WEEK + TRUE + BEGINS);
        taken("year 0000999;", 1, "year 999;extra 1;months 999 leap 0;" + WEEK + TRUE + BEGINS);
        taken("true 1 and 0 of 1000000;", 1, YEAR + MONTHS + WEEK + "true 1 and 0 of 1000000;" + BEGINS);
        fault(1, "year ^00000001;");
        fault(1, "year ^10000000;");
        fault(1, "even ^10000000 of 4;");
        fault(1, "even 1 of ^00000004;");
        fault(1, "every ^00000004;");
        fault(1, "every 4 not ^00000008;");
        fault(1, "row ^00000004;");
        fault(1, "row 4 ^00000000;");
        fault(1, "months 365 ^00000001;");
        fault(1, "week 7 at ^00000000;");
        fault(1, "year ^;");
        fault(1, "year ^-1;");
        fault(1, "year ^+1;");
        fault(1, "year 1^.5;");
    }

    private static void blanks() {
        String told = "year 20;extra 2;even 1 of 4 shift 3;months 8 12 leap 0;week 5 at 4;true 20 and 1 of 2;begins 1 of 3;";
        taken(told, 4, told);
        taken(told.replace(" ", "\n"), 4, told);
        taken(told.replace(" ", "  \n \n"), 4, told);
        taken(" \n" + told.replace(";", " \n;\n "), 4, told);
        taken("\n" + told + "\n", 4, told);
        for (int sign = 0; sign < 256; sign++) {
            boolean fits = sign == 10 || sign == 32 || sign == ';' || sign >= '0' && sign <= '9' || sign >= 'a' && sign <= 'z';
            if (!fits) {
                fault(1, "year 20^" + (char) sign + ";");
                fault(1, "year^" + (char) sign + "20;");
                fault(1, "year 20;^" + (char) sign);
                fault(1, "^" + (char) sign + "year 20;");
            }
        }
        fault(1, "^ye ar 20;");
        fault(1, "year 2 ^0;");
    }

    private static void blanksNeeded() {
        fault(1, "year^20;");
        fault(1, "extra^2;");
        fault(1, "even^1 of 4;");
        fault(1, "even 1^of 4;");
        fault(1, "even 1 of^4;");
        fault(1, "even 1 of 4^shift 1;");
        fault(1, "even 1 of 4 shift^1;");
        fault(1, "every^4;");
        fault(1, "every 4^not 8;");
        fault(1, "every 4 not^8;");
        fault(1, "every 4 not 8^but 16;");
        fault(1, "every 4 not 8 but^16;");
        fault(1, "row^4 1;");
        fault(1, "months^365;");
        fault(1, "months 365^leap 0;");
        fault(1, "months 365 leap^0;");
        fault(1, "week^7 at 0;");
        fault(1, "week 7^at 0;");
        fault(1, "week 7 at^0;");
        fault(1, "true^1 and 0 of 1;");
        fault(1, "true 1^and 0 of 1;");
        fault(1, "true 1 and^0 of 1;");
        fault(1, "true 1 and 0^of 1;");
        fault(1, "true 1 and 0 of^1;");
        fault(1, "begins^0 of 1;");
        fault(1, "begins 0^of 1;");
        fault(1, "begins 0 of^1;");
    }

    private static void words() {
        String[] inside = {"of", "shift", "not", "but", "leap", "at", "and"};
        for (String word : inside) {
            fault(1, "^" + word + " 1;");
            fault(1, "year 20;^" + word + " 1;");
        }
        String[] openers = {"year", "extra", "even", "every", "row", "months", "week", "true", "begins"};
        for (String word : openers) {
            fault(1, "^" + word.substring(0, word.length() - 1) + " 1;");
            fault(1, "^" + word + "x 1;");
            fault(1, "^" + word + word + " 1;");
            fault(1, "^" + word.toUpperCase() + " 1;");
            fault(1, word + "^");
            fault(1, word + "^;");
            fault(1, word + " ^" + word + ";");
        }
        // any other letter in any place
        for (String word : openers) {
            for (int place = 0; place < word.length(); place++) {
                for (char letter = 'a'; letter <= 'z'; letter++) {
                    String other = word.substring(0, place) + letter + word.substring(place + 1);
                    if (letter != word.charAt(place)) {
                        fault(1, "^" + other + " 1;");
                    }
                }
            }
        }
        for (char letter = 'a'; letter <= 'z'; letter++) {
            fault(1, "^year" + letter + " 1;");
            fault(1, "^" + letter + "year 1;");
        }
        String[] lines = {"even 1 of 4;", "even 1 of 4 shift 1;", "every 4 not 8;", "every 4 not 8 but 16;", "months 365 leap 0;", "week 7 at 0;",
            "true 1 and 0 of 1;"};
        String[] words = {"of", "shift", "not", "but", "leap", "at", "and"};
        for (int i = 0; i < lines.length; i++) {
            fault(1, lines[i].replace(words[i], "^x" + words[i].substring(1)));
            fault(1, lines[i].replace(words[i], "^" + words[i].substring(0, words[i].length() - 1) + "x"));
        }
        fault(1, "even 1 ^off 4;");
        fault(1, "even 1 ^o 4;");
        fault(1, "even 1 of 4 ^shifts 1;");
        fault(1, "every 4 ^no 8;");
        fault(1, "every 4 ^note 8;");
        fault(1, "months 365 ^lea 0;");
        fault(1, "week 7 ^a 0;");
        fault(1, "true 1 ^an 0 of 1;");
        fault(1, "^;");
        fault(1, "^5;");
    }

    /** At the text's length, if it ends too soon: ahead of every word and number of each STATEMENT. */
    private static void endsTooSoon() {
        String[] texts = {"year 20;", "extra 2;", "even 1 of 4 shift 3;", "every 4 not 8 but 16;", "row 4 1 3;",
            "months 300 65 leap 0;", "week 5 at 4;", "true 20 and 1 of 2;", "begins 1 of 3;"};
        for (String text : texts) {
            String whole = text.substring(0, text.length() - 1);
            fault(1, whole + "^");
            fault(1, whole + " \n^");
            for (int end = whole.lastIndexOf(' '); end > 0; end = whole.lastIndexOf(' ', end - 1)) {
                fault(1, whole.substring(0, end) + "^");
                fault(1, whole.substring(0, end) + " ^");
                fault(1, whole.substring(0, end) + "\n^");
            }
        }
        // a word that is cut is no word
        fault(1, "^yea");
        fault(1, "even 1 ^o");
    }

    /** Of several the one whose place is least. */
    private static void leastPlace() {
        fault(2, "year ^0;extra 0;x");
        fault(1, "^x;year 0;");
        fault(2, "extra ^0;year 5;year 5;");
        fault(3, "year 5;^year 0;x");
        fault(2, "months 300 ^0;year 0;");
        fault(4, "months" + times(" 1", 15) + " ^1;x");
        fault(4, "every 1 not 2 but 4 not 8 but 16 not 32 but ^64 not 1;");
        fault(2, "every 1 not 2 but 4 not ^4 but 16 not 32 but 64;");
        fault(2, "months 364;extra ^31;");
        fault(1, "months 364;^x");
        fault(3, "months 364;^months 365;");
        fault(2, "even 1 of ^1001 shift 5000;");
        fault(2, "week ^11 at 12;");
        fault(2, "true ^1000 and 5 of 4;");
        fault(2, "row 4 ^4 3;");
    }

    /** Of one place the one that stands first. */
    private static void onePlace() {
        // 1 ahead of 2, 4 and 5
        fault(1, "year ^10000000;");
        fault(1, "every 1 not 2 but 4 not 8 but 16 not 32 but ^00000064;");
        fault(1, "months" + times(" 1", 15) + " ^00000001;");
        fault(1, "months 364^");
        fault(1, "months 364;year 20^");
        // 2 ahead of 4
        fault(2, "every 1 not 2 but 4 not 8 but 16 not 32 but ^32;");
        fault(2, "every 1 not 2 but 4 not 8 but 16 not 32 but ^33;");
        fault(2, "every 1 not 2 but 4 not 8 but 16 not 32 but ^10016;");
        fault(2, "every 1 not 2 but 4 not 8 but 16 not 32 but ^0;");
        fault(4, "every 1 not 2 but 4 not 8 but 16 not 32 but ^9984;");
        fault(2, "months" + times(" 1", 15) + " ^0;");
        fault(2, "months" + times(" 1", 15) + " ^1000;");
        fault(4, "months" + times(" 1", 15) + " ^999;");
    }

    private static void fullTape() {
        String row = "row 400" + threeDigits(198) + ";";
        CHECK.due("a text as long as the tape", 800, row.length());
        LeapDesigner x = new LeapDesigner();
        CHECK.due("800 bytes", 400, Check.design(x, 0, row));
        CHECK.due("800 bytes, LEAP YEARS", 198, x.has(0, 8));
        fault(1, "year 5" + times(" ", 794) + "^");
        fault(5, "months 364;" + times(" ", 789) + "^");
        fault(1, times(" ", 799) + "^;");
        fault(1, times(" ", 796) + "^yeax");
        fault(1, times(" ", 796) + "year^");
        taken(times("\n", 791) + "year 365;", 1, YEAR + REST);
        taken(times(" ", 800), 1, YEAR + REST);
    }

    private static String threeDigits(int n) {
        StringBuilder numbers = new StringBuilder();
        for (int i = 0; i < n; i++) {
            numbers.append(' ').append(100 + i);
        }
        return numbers.toString();
    }
}
