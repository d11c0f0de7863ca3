import java.util.List;

/** Promises 50 to 52 against every fraction there is, or many by chance. */
public final class FractionTest {
    private static final Check CHECK = new Check("FractionTest");
    private static final long NOTHING = LeapDesigner.NOTHING;
    private static final LeapDesigner X = new LeapDesigner();

    public static void main(String[] args) {
        for (int q = 1; q <= 40; q++) {
            for (int p = 0; p <= q; p++) {
                for (int n = 1; n <= 45; n++) {
                    best(p, q, n);
                }
                continued(p, q);
            }
        }
        Dice dice = new Dice(7);
        for (int i = 0; i < 300; i++) {
            int q = dice.from(1, 1000000);
            int p = dice.from(0, q);
            best(p, q, dice.from(1, 1500));
            continued(p, q);
        }
        best(500001, 1000000, 100000);
        best(999999, 1000000, 100000);
        best(1, 1000000, 100000);
        best(618034, 1000000, 100000);
        CHECK.end();
    }

    private static void best(int p, int q, int n) {
        Model.Ratio best = Fractions.best(new Model.Ratio(p, q), n);
        String call = "best(" + p + ", " + q + ", " + n + ", ";
        CHECK.due(call + "0)", best.part(0), X.best(p, q, n, 0));
        CHECK.due(call + "1)", best.part(1), X.best(p, q, n, 1));
    }

    private static void continued(int p, int q) {
        List<Long> terms = Fractions.terms(new Model.Ratio(p, q));
        String call = "(" + p + ", " + q + ", ";
        CHECK.due("term" + call + "-1)", terms.size(), X.term(p, q, -1));
        CHECK.due("term" + call + "-2)", NOTHING, X.term(p, q, -2));
        for (int k = 0; k < terms.size(); k++) {
            CHECK.due("term" + call + k + ")", terms.get(k), X.term(p, q, k));
            Model.Ratio told = Fractions.convergent(terms, k);
            CHECK.due("convergent" + call + k + ", 0)", told.part(0), X.convergent(p, q, k, 0));
            CHECK.due("convergent" + call + k + ", 1)", told.part(1), X.convergent(p, q, k, 1));
        }
        CHECK.due("term" + call + terms.size() + ")", NOTHING, X.term(p, q, terms.size()));
        CHECK.due("convergent" + call + terms.size() + ", 0)", NOTHING, X.convergent(p, q, terms.size(), 0));
    }
}
