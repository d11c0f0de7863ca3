/** Texts that are no designs: which FAULT is told, and where. */
public final class FaultTest {
    private static final Check CHECK = new Check("FaultTest");

    public static void main(String[] args) {
        syntax();
        numbers();
        upperAgainstLower();
        toldAlready();
        tooMany();
        monthsUnequal();
        fine();
        CHECK.end();
    }

    private static void fault(String text, int fault, int place) {
        LeapDesigner x = new LeapDesigner();
        int answer = Check.design(x, 2, text);
        CHECK.due("design of '" + text + "'", -1, answer);
        CHECK.due("fault(0) of '" + text + "'", fault, x.fault(0));
        CHECK.due("fault(1) of '" + text + "'", place, x.fault(1));
        CHECK.due("count(0) after '" + text + "'", 0, x.count(0));
        CHECK.due("count(1) after '" + text + "'", 0, x.count(1));
    }

    private static void good(String text, int cycle) {
        LeapDesigner x = new LeapDesigner();
        CHECK.due("design of '" + text + "'", cycle, Check.design(x, 2, text));
        CHECK.due("fault(0) of '" + text + "'", 0, x.fault(0));
        CHECK.due("fault(1) of '" + text + "'", -1, x.fault(1));
    }

    private static void syntax() {
        fault(";", 1, 0);
        fault("x", 1, 0);
        fault("5;", 1, 0);
        fault("of 5;", 1, 0);
        fault("leap 1;", 1, 0);
        fault("yea 5;", 1, 0);
        fault("yea", 1, 0);
        fault("years 5;", 1, 0);
        fault("yearextra 5;", 1, 0);
        fault("Year 5;", 1, 0);
        fault("  year", 1, 6);
        fault("year ", 1, 5);
        fault("year 5", 1, 6);
        fault("year 5  \n", 1, 9);
        fault("year;", 1, 4);
        fault("year5;", 1, 4);
        fault("year 5 5;", 1, 7);
        fault("year 5x;", 1, 6);
        fault("year 5of;", 1, 6);
        fault("year 5,;", 1, 6);
        fault("year\t5;", 1, 4);
        fault("year 5;;", 1, 7);
        fault("year -5;", 1, 5);
        fault("year 00000005;", 1, 5);
        fault("year 12345678;", 1, 5);
        fault("year 123456789012345678901234567890;", 1, 5);
        fault("even 1;", 1, 6);
        fault("even 1 4;", 1, 7);
        fault("even 1of 4;", 1, 6);
        fault("even 1 of4;", 1, 9);
        fault("even 1 of 4 shift;", 1, 17);
        fault("even 1 of 4 shift 1 shift 1;", 1, 20);
        fault("even 1 of 4 leap 1;", 1, 12);
        fault("every;", 1, 5);
        fault("every 4 but 8;", 1, 8);
        fault("every 4 not 8 not 16;", 1, 14);
        fault("every 4 not;", 1, 11);
        fault("every 4 8;", 1, 8);
        fault("every 4 not 8 but", 1, 17);
        fault("every 1 not 2 but 4 not 8 but 16 not 32 but;", 1, 43);
        fault("row;", 1, 3);
        fault("row 4 leap 1;", 1, 6);
        fault("months;", 1, 6);
        fault("months leap 1;", 1, 7);
        fault("months 365 leap;", 1, 15);
        fault("months 365 leap 0 0;", 1, 18);
        fault("months 365 not 0;", 1, 11);
        fault("week 7;", 1, 6);
        fault("week 7 of 0;", 1, 7);
        fault("true 365;", 1, 8);
        fault("true 365 and 1;", 1, 14);
        fault("true 365 of 1 of 4;", 1, 9);
        fault("begins 1;", 1, 8);
        fault("begins 1 of;", 1, 11);
        fault("year 365;\u00e9", 1, 9);
        fault("year 365;\u0000", 1, 9);
        // a text that ends too soon is FAULT 1 ahead of FAULT 5 at the same place
        fault("months 300", 1, 10);
    }

    private static void numbers() {
        fault("year 0;", 2, 5);
        fault("year 1000;", 2, 5);
        fault("year 0000000;", 2, 5);
        fault("extra 0;", 2, 6);
        fault("extra 31;", 2, 6);
        fault("even 1 of 0;", 2, 10);
        fault("even 1 of 1001;", 2, 10);
        fault("even 1 of 4 shift 4;", 2, 18);
        fault("every 0;", 2, 6);
        fault("every 10000;", 2, 6);
        fault("every 4 not 4;", 2, 12);
        fault("every 4 not 2;", 2, 12);
        fault("every 4 not 0;", 2, 12);
        fault("every 4 not 10;", 2, 12);
        fault("every 4 not 12000;", 2, 12);
        fault("every 9999 not 9999;", 2, 15);
        fault("every 4 not 8 but 12;", 2, 18);
        fault("row 0;", 2, 4);
        fault("row 401;", 2, 4);
        fault("row 4 4;", 2, 6);
        fault("row 4 1 1;", 2, 8);
        fault("row 4 2 1;", 2, 8);
        fault("row 4 0 1 2 3 3;", 2, 14);
        fault("row 4 0 1 2 3 4;", 2, 14);
        fault("months 0;", 2, 7);
        fault("months 1000;", 2, 7);
        fault("months 30 0;", 2, 10);
        fault("months 365 leap 1;", 2, 16);
        fault("months 300 65 leap 2;", 2, 19);
        fault("week 0 at 0;", 2, 5);
        fault("week 11 at 0;", 2, 5);
        fault("week 7 at 7;", 2, 10);
        fault("true 1000 and 0 of 1;", 2, 5);
        fault("true 365 and 0 of 0;", 2, 18);
        fault("true 365 and 0 of 1000001;", 2, 18);
        fault("begins 0 of 0;", 2, 12);
        fault("begins 0 of 1001;", 2, 12);
        // what stands behind does not count
        fault("year 0", 2, 5);
        fault("year 0x", 2, 5);
        fault("year 1000 1000;", 2, 5);
    }

    private static void upperAgainstLower() {
        fault("even 5 of 4;", 2, 5);
        fault("even 5 of 4", 2, 5);
        fault("even 5 of 4x", 2, 5);
        fault("even 5 of 4 shift 9;", 2, 5);
        fault("even 5 of 0;", 2, 10);
        fault("even 5 of x;", 1, 10);
        fault("even 5 of 12345678;", 1, 10);
        fault("even 5 of4;", 1, 9);
        fault("even 1000 of 999;", 2, 5);
        fault("even 1001 of x;", 2, 5);
        fault("even 1000 of x;", 1, 13);
        fault("true 365 and 4 of 4;", 2, 13);
        fault("true 365 and 1000000 of 1000000;", 2, 13);
        fault("true 365 and 1000001 x;", 2, 13);
        fault("true 365 and 1000000 x;", 1, 21);
        fault("begins 4 of 4;", 2, 7);
        fault("begins 1000 of 1000;", 2, 7);
        fault("begins 1001 x;", 2, 7);
        fault("begins 1000 x;", 1, 12);
    }

    private static void toldAlready() {
        fault("year 5;year 5;", 3, 7);
        fault("year 5; \n year", 3, 10);
        fault("year 5;year6;", 3, 7);
        fault("year 5;year 0;", 3, 7);
        fault("extra 1;extra 1;", 3, 8);
        fault("even 1 of 4;even 1 of 4;", 3, 12);
        fault("even 1 of 4;every 4;", 3, 12);
        fault("every 4;row 4;", 3, 8);
        fault("row 4;even 1 of 4;", 3, 6);
        fault("months 365;months 365;", 3, 11);
        fault("week 7 at 0;week 7 at 0;", 3, 12);
        fault("true 1 and 0 of 1;true 1 and 0 of 1;", 3, 18);
        fault("begins 0 of 1;begins 0 of 1;", 3, 14);
        fault("months 300;months 65;", 3, 11);
        fault("year 365;extra 1;row 1;months 365;week 7 at 0;true 1 and 0 of 1;begins 0 of 1;year 365;", 3, 78);
    }

    private static void tooMany() {
        fault("every 1 not 2 but 4 not 8 but 16 not 32 but 64;", 4, 44);
        fault("every 1 not 2 but 4 not 8 but 16 not 32 but 64", 4, 44);
        fault("every 1 not 2 but 4 not 8 but 16 not 32 but 65;", 2, 44);
        fault("every 1 not 2 but 4 not 8 but 16 not 32 but 32;", 2, 44);
        fault("every 1 not 2 but 4 not 8 but 16 not 32 but 32000;", 2, 44);
        fault("months 1 1 1 1 1 1 1 1 1 1 1 1 1 1 1 1;", 4, 37);
        fault("months 1 1 1 1 1 1 1 1 1 1 1 1 1 1 1 1 1 1;", 4, 37);
        fault("months 1 1 1 1 1 1 1 1 1 1 1 1 1 1 1 0;", 2, 37);
        fault("months 1 1 1 1 1 1 1 1 1 1 1 1 1 1 1 12345678;", 1, 37);
    }

    private static void monthsUnequal() {
        fault("months 364;", 5, 11);
        fault("months 364;  ", 5, 13);
        fault("year 30;months 15 16;", 5, 21);
        fault("months 15 16;year 30;", 5, 21);
        fault("months 30;year 31;extra 2;", 5, 26);
        fault("months 364;year 0;", 2, 16);
    }

    private static void fine() {
        good("", 1);
        good("  \n ", 1);
        good("year 0000365;", 1);
        good("year\n365\n;\nextra\n30;", 1);
        good("months 1 1 1 1 1 1 1 1 1 1 1 1 1 1 1;year 15;", 1);
        good("year 999;", 1);
        good("even 0 of 1;", 1);
        good("even 1000 of 1000 shift 999;", 1000);
        good("every 9999;", 9999);
        good("every 1 not 2 but 4 not 8 but 16 not 32;", 32);
        good("row 1;", 1);
        good("row 400 0 399;", 400);
        good("row 2 0 1;", 2);
        good("week 10 at 9;", 1);
        good("week 1 at 0;", 1);
        good("true 0 and 999999 of 1000000;", 1);
        good("true 999 and 0 of 1;", 1);
        good("begins 999 of 1000;", 1);
        good("begins 0 of 1;true 365 and 0 of 1;week 7 at 0;months 365 leap 0;row 3 1;extra 1;year 365;", 3);
    }
}
