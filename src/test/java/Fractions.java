import java.util.ArrayList;
import java.util.List;

/** Fractions as the document's words have them. */
final class Fractions {
    private Fractions() {
    }

    /** Every lower number from 1 on, with the upper numbers about the one wanted: the first of the nearest. */
    static Model.Ratio best(Model.Ratio aim, int n) {
        Model.Ratio best = new Model.Ratio(0, 1);
        Model.Ratio least = aim.abs();
        for (int below = 1; below <= n; below++) {
            long near = aim.times(below).floor();
            for (long above = near; above <= near + 1; above++) {
                Model.Ratio off = new Model.Ratio(above, below).minus(aim).abs();
                if (above <= below && off.compareTo(least) < 0) {
                    least = off;
                    best = new Model.Ratio(above, below);
                }
            }
        }
        return best;
    }

    static List<Long> terms(Model.Ratio of) {
        List<Long> terms = new ArrayList<>();
        Model.Ratio rest = of;
        while (true) {
            long whole = rest.floor();
            terms.add(whole);
            rest = rest.minus(new Model.Ratio(whole, 1));
            if (rest.above.signum() == 0) {
                return terms;
            }
            rest = new Model.Ratio(1, 1).by(rest);
        }
    }

    static Model.Ratio convergent(List<Long> terms, int k) {
        Model.Ratio told = new Model.Ratio(terms.get(k), 1);
        for (int i = k - 1; i >= 0; i--) {
            told = new Model.Ratio(terms.get(i), 1).plus(new Model.Ratio(1, 1).by(told));
        }
        return told;
    }
}
