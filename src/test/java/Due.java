/** What the tests share: an answer and the one that is due, and THE TAPE fed from a text. */
final class Due {
    private int wrong = 0;
    private int asked = 0;

    void due(String call, long got, long want) {
        asked++;
        if (got != want) {
            wrong++;
            System.out.println(call + " answered " + got + ", due is " + want);
        }
    }

    void end() {
        System.out.println(wrong == 0 ? "all " + asked + " answers are as due" : wrong + " of " + asked + " answers are not as due");
        if (wrong != 0 || asked == 0) {
            System.exit(1);
        }
    }

    static int number(String s, int at) {
        int v = 0;
        for (int i = at; i < at + 4; i++) {
            v = v << 8 | (i < s.length() ? s.charAt(i) : 0);
        }
        return v;
    }

    /** THE TAPE, empty ahead of it, holds s; the last feed is cut where s ends. */
    static void feed(DayMarket x, String s) {
        for (int at = 0; at < s.length(); at += 12) {
            x.feed(number(s, at), number(s, at + 4), number(s, at + 8));
        }
        x.trim(s.length());
    }

    static int text(DayMarket x, String s) {
        feed(x, s);
        return x.text();
    }
}
