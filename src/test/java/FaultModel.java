import java.util.HashSet;
import java.util.List;
import java.util.Set;

/**
 * A text as the document's words have it, read apart from the program: every FAULT up to the first of sort 1 is
 * gathered, and of all of them the one whose place is least counts, of one place that with the least number.
 */
final class FaultModel {
    private static final List<String> OPENERS = List.of("year", "extra", "even", "every", "row", "months", "week", "true", "begins");
    private static final List<String> LAWS = List.of("even", "every", "row");

    private final String text;
    private final Set<String> told = new HashSet<>();
    private int at = 0;
    private boolean ranOn = false;
    private int year = 365;
    private int months = -1;
    private int fault = 0;
    private int place = -1;

    FaultModel(String text) {
        this.text = text;
        try {
            skip();
            while (at < text.length()) {
                statement();
            }
            if (months >= 0 && months != year && fault == 0) {
                found(5, text.length());
            }
        } catch (NoSuchText broken) {
            found(1, broken.place);
        }
    }

    int fault() {
        return fault;
    }

    int place() {
        return place;
    }

    private static final class NoSuchText extends RuntimeException {
        private static final long serialVersionUID = 1;
        final int place;

        NoSuchText(int place) {
            super(null, null, false, false);
            this.place = place;
        }
    }

    private void found(int which, int where) {
        if (fault == 0 || where < place || where == place && which < fault) {
            fault = which;
            place = where;
        }
    }

    // ---- bytes

    private static boolean isLetter(char c) {
        return c >= 'a' && c <= 'z';
    }

    private static boolean isDigit(char c) {
        return c >= '0' && c <= '9';
    }

    private boolean isBlank() {
        return at < text.length() && (text.charAt(at) == ' ' || text.charAt(at) == '\n');
    }

    private void skip() {
        while (isBlank()) {
            at++;
            ranOn = false;
        }
    }

    /** The word that stands here, or nothing. */
    private String word() {
        int end = at;
        while (end < text.length() && isLetter(text.charAt(end))) {
            end++;
        }
        return text.substring(at, end);
    }

    private boolean isNext(String word) {
        return !ranOn && word().equals(word);
    }

    private void take(String word) {
        if (!isNext(word)) {
            throw new NoSuchText(at);
        }
        at += word.length();
        ranOn = true;
        skip();
    }

    private boolean numberIsNext() {
        return !ranOn && at < text.length() && isDigit(text.charAt(at)) && digits() <= 7;
    }

    private int digits() {
        int end = at;
        while (end < text.length() && isDigit(text.charAt(end))) {
            end++;
        }
        return end - at;
    }

    /** A number of any size. */
    private int number() {
        if (!numberIsNext()) {
            throw new NoSuchText(at);
        }
        int value = Integer.parseInt(text.substring(at, at + digits()));
        at += digits();
        ranOn = true;
        skip();
        return value;
    }

    private int number(int least, int most) {
        int where = at;
        int value = number();
        if (value < least || value > most) {
            found(2, where);
        }
        return value;
    }

    // ---- statements

    private void statement() {
        String word = ranOn ? "" : word();
        if (OPENERS.contains(word) && !told.add(LAWS.contains(word) ? "law" : word)) {
            found(3, at);
        }
        switch (word) {
            case "year":
                take(word);
                year = number(1, 999);
                break;
            case "extra":
                take(word);
                number(1, 30);
                break;
            case "even":
                even();
                break;
            case "every":
                every();
                break;
            case "row":
                row();
                break;
            case "months":
                months();
                break;
            case "week":
                take(word);
                int days = number(1, 10);
                take("at");
                number(0, days - 1);
                break;
            case "true":
                take(word);
                number(0, 999);
                take("and");
                share(1000000, false);
                break;
            case "begins":
                take(word);
                share(1000, false);
                break;
            default:
                throw new NoSuchText(at);
        }
        if (at >= text.length() || text.charAt(at) != ';') {
            throw new NoSuchText(at);
        }
        at++;
        ranOn = false;
        skip();
    }

    private int share(int most, boolean maySame) {
        int where = at;
        int above = number(0, most);
        take("of");
        int below = number(1, most);
        boolean can = below >= 1 && below <= most;
        if (can && (above > below || above == below && !maySame)) {
            found(2, where);
        }
        return below;
    }

    private void even() {
        take("even");
        int n = share(1000, true);
        if (isNext("shift")) {
            take("shift");
            number(0, n - 1);
        }
    }

    private void every() {
        take("every");
        int latest = number(1, 9999);
        int count = 1;
        while (isNext(count % 2 == 1 ? "not" : "but")) {
            take(count % 2 == 1 ? "not" : "but");
            int where = at;
            int next = number(1, 9999);
            if (next <= latest || latest < 1 || next % latest != 0) {
                found(2, where);
            }
            count++;
            if (count == 7) {
                found(4, where);
            }
            latest = next;
        }
    }

    private void row() {
        take("row");
        int n = number(1, 400);
        int latest = -1;
        while (numberIsNext()) {
            latest = number(latest + 1, n - 1);
        }
    }

    private void months() {
        take("months");
        months = 0;
        int count = 0;
        do {
            int where = at;
            months += number(1, 999);
            count++;
            if (count == 16) {
                found(4, where);
            }
        } while (numberIsNext());
        if (isNext("leap")) {
            take("leap");
            number(0, count - 1);
        }
    }
}
