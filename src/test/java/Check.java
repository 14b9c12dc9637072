/** What the tests share: it counts wrong answers, and writes TEXTS and ROWS into an object. */
final class Check {
    private int wrong;
    private int asked;

    void due(String call, long got, long want) {
        asked++;
        if (got != want) {
            wrong++;
            System.out.println(call + " answered " + got + ", due is " + want);
        }
    }

    /** A call that tells by asked(). */
    void told(PaceBorder x, String call, int got, int want) {
        due(call, got, 1);
        due(call + " by asked()", x.asked(), want);
    }

    /** A call that tells by upper(), lower(). */
    void chance(PaceBorder x, String call, int got, long upper, long lower) {
        due(call, got, 1);
        due(call + " by upper()", x.upper(), upper);
        due(call + " by lower()", x.lower(), lower);
    }

    /** A call that is refused by a FINDING. */
    void found(PaceBorder x, String call, int got, int finding) {
        due(call, got, PaceBorder.FINDING);
        due(call + " by finding()", x.finding(), finding);
    }

    void isRow(PaceBorder x, int r, int... places) {
        for (int i = 0; i < places.length; i++) {
            told(x, "at(" + r + ", " + i + ")", x.at(r, i), places[i]);
        }
        due("at(" + r + ", " + places.length + ")", x.at(r, places.length), PaceBorder.FINDING);
    }

    void end() {
        System.out.println(asked + " answers, " + wrong + " wrong");
        if (wrong != 0) {
            System.exit(1);
        }
    }

    static void write(PaceBorder x, int t, String text) {
        x.text(t, text.length());
        for (int i = 0; i < text.length(); i++) {
            x.put(t, i, text.charAt(i));
        }
    }

    static void fill(PaceBorder x, int r, int... places) {
        x.row(r, places.length);
        for (int i = 0; i < places.length; i++) {
            x.lay(r, i, places[i]);
        }
    }

    static PaceBorder land(String text) {
        PaceBorder x = new PaceBorder();
        write(x, 0, text);
        x.land(0);
        return x;
    }

    static void days(PaceBorder x, int n, int a, int b) {
        for (int k = 0; k < n; k++) {
            x.day(a, b);
        }
    }
}
