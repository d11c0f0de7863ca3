import java.util.ArrayList;
import java.util.Collections;
import java.util.List;
import java.util.Random;

/** Designs and numbers by chance, always the same ones for a seed. */
final class Dice {
    private final Random random;

    Dice(long seed) {
        random = new Random(seed);
    }

    int from(int least, int most) {
        return least + random.nextInt(most - least + 1);
    }

    boolean once(int in) {
        return random.nextInt(in) == 0;
    }

    boolean coin() {
        return random.nextBoolean();
    }

    /** Mostly near 0, now and then at the ends or past them. */
    int anyYear() {
        switch (from(0, 9)) {
            case 0:
                return from(99990, 100003);
            case 1:
                return from(-100003, -99990);
            case 2:
            case 3:
                return from(-100000, 100000);
            default:
                return from(-500, 2500);
        }
    }

    /** Within the bounds, or now and then just past them. */
    int about(int least, int most) {
        switch (from(0, 19)) {
            case 0:
                return least - 1;
            case 1:
                return most + 1;
            case 2:
                return least;
            case 3:
                return most;
            default:
                return from(least, most);
        }
    }

    Model model() {
        Model m = new Model();
        m.year = once(4) ? from(1, 999) : from(340, 390);
        m.extra = once(3) ? from(1, 30) : 1;
        law(m, from(0, 9));
        months(m);
        m.week = coin() ? 7 : from(1, 10);
        m.firstWeekday = from(0, m.week - 1);
        m.trueDays = once(8) ? from(0, 999) : Math.min(999, m.year + from(0, 1));
        m.trueQ = once(3) ? from(1, 1000000) : from(1, 1000);
        m.trueP = from(0, m.trueQ - 1);
        m.beginQ = once(3) ? 1 : from(1, 1000);
        m.beginP = from(0, m.beginQ - 1);
        return m;
    }

    private void law(Model m, int which) {
        if (which == 0) {
            return;
        }
        if (which <= 3) {
            m.sort = 1;
            m.n = once(4) ? from(1, 1000) : from(1, 60);
            m.k = from(0, m.n);
            m.s = from(0, m.n - 1);
        } else if (which <= 6) {
            m.sort = 2;
            ladder(m);
        } else {
            m.sort = 3;
            m.n = from(1, once(3) ? 400 : 30);
            m.row = row(m.n, from(1, 6));
        }
    }

    private void ladder(Model m) {
        List<Integer> steps = new ArrayList<>();
        steps.add(from(1, once(4) ? 9999 : 12));
        while (steps.size() < 6 && !once(4)) {
            int latest = steps.get(steps.size() - 1);
            int times = 9999 / latest;
            if (times < 2) {
                break;
            }
            steps.add(latest * from(2, Math.min(times, 8)));
        }
        m.ladder = new int[steps.size()];
        for (int i = 0; i < m.ladder.length; i++) {
            m.ladder[i] = steps.get(i);
        }
    }

    private int[] row(int n, int oneIn) {
        List<Integer> told = new ArrayList<>();
        for (int y = 0; y < n && told.size() < 110; y++) {
            if (once(oneIn)) {
                told.add(y);
            }
        }
        int[] row = new int[told.size()];
        for (int i = 0; i < row.length; i++) {
            row[i] = told.get(i);
        }
        return row;
    }

    private void months(Model m) {
        int count = once(4) ? 1 : Math.min(m.year, from(1, 15));
        m.months = new int[count];
        int left = m.year;
        for (int i = 0; i < count; i++) {
            int fair = left / (count - i);
            m.months[i] = i == count - 1 ? left : Math.max(1, Math.min(left - (count - 1 - i), fair + from(-2, 2)));
            left -= m.months[i];
        }
        m.leapMonth = from(0, count - 1);
    }

    /** The same design in other words: statements in any order, blanks here and there, what need not be told untold. */
    String spoken(Model m) {
        List<String> statements = new ArrayList<>();
        for (String statement : m.text().split(";")) {
            statements.add(shorter(statement, m));
        }
        Collections.shuffle(statements, random);
        StringBuilder out = new StringBuilder();
        for (String statement : statements) {
            if (!statement.isEmpty()) {
                out.append(blanks()).append(statement.replace(" ", " " + blanks())).append(blanks()).append(';');
            }
        }
        return out.append(blanks()).toString();
    }

    private String shorter(String statement, Model m) {
        if (coin()) {
            return statement;
        }
        if (statement.equals("year 365") || statement.equals("extra 1") || statement.equals("week 7 at 0")
                || statement.equals("true 365 and 0 of 1") || statement.equals("begins 0 of 1")) {
            return "";
        }
        if (statement.startsWith("months") && m.leapMonth == m.months.length - 1) {
            return m.months.length == 1 ? "" : statement.substring(0, statement.indexOf(" leap"));
        }
        return statement.endsWith(" shift 0") ? statement.substring(0, statement.indexOf(" shift")) : statement;
    }

    private String blanks() {
        return once(12) ? coin() ? "\n" : "  " : "";
    }
}
