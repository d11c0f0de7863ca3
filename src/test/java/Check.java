/** Counts answers that are not due, and feeds texts. */
final class Check {
    private final String name;
    private int asked = 0;
    private int wrong = 0;

    Check(String name) {
        this.name = name;
    }

    void due(String call, long want, long got) {
        asked++;
        if (want != got) {
            wrong++;
            if (wrong <= 40) {
                System.out.println(call + " answered " + got + ", due is " + want);
            }
        }
    }

    void due(String call, boolean want, boolean got) {
        due(call, want ? 1 : 0, got ? 1 : 0);
    }

    void end() {
        System.out.println(name + ": " + asked + " answers, " + wrong + " not as due");
        if (wrong != 0 || asked == 0) {
            System.exit(1);
        }
    }

    /** Puts a text on the tape, which must be empty. */
    static void feed(LeapDesigner x, String text) {
        int length = text.length();
        for (int i = 0; i < length; i += 20) {
            x.feed(four(text, i), four(text, i + 4), four(text, i + 8), four(text, i + 12), four(text, i + 16));
        }
        x.end(length);
    }

    private static int four(String text, int from) {
        int four = 0;
        for (int i = from; i < from + 4; i++) {
            four = four << 8 | (i < text.length() ? text.charAt(i) & 255 : 32);
        }
        return four;
    }

    static int design(LeapDesigner x, int s, String text) {
        feed(x, text);
        return x.design(s);
    }

    /** A new object whose designs 0, 1 .. are these texts. */
    static LeapDesigner with(String... texts) {
        LeapDesigner x = new LeapDesigner();
        for (int s = 0; s < texts.length; s++) {
            if (design(x, s, texts[s]) < 0) {
                throw new IllegalStateException("refused at " + x.fault(1) + ": " + texts[s]);
            }
        }
        return x;
    }

    static String written(LeapDesigner x, int s) {
        int length = x.write(s);
        StringBuilder text = new StringBuilder();
        for (int i = 0; i < length; i++) {
            text.append((char) x.octet(i));
        }
        return text.toString();
    }
}
