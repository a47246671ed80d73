/** Counts answers that are due, and tells those that are not as due. */
final class Due {
    private int asked;
    private int wrong;

    void is(String call, long got, long want) {
        asked++;
        if (got != want) {
            wrong++;
            System.out.println(call + " answered " + got + ", due is " + want);
        }
    }

    void is(String call, String got, String want) {
        asked++;
        if (!got.equals(want)) {
            wrong++;
            System.out.println(call + " answered\n  " + got + "\ndue is\n  " + want);
        }
    }

    /** The end of a test's main method. */
    void finish() {
        System.out.println(asked + " answers asked for, " + wrong + " not as due");
        if (wrong != 0 || asked == 0) {
            System.exit(1);
        }
    }

    static void feed(FatLean x, String text) {
        for (int i = 0; i < text.length(); i++) {
            x.feed(text.charAt(i));
        }
    }

    /** A new object to which a text was told. */
    static FatLean told(String text) {
        FatLean x = new FatLean();
        feed(x, text);
        if (x.text() < 0) {
            throw new IllegalStateException("a text with a fault: " + text);
        }
        return x;
    }

    /** What text() answers and its FAULT, in a new object: "answer/fault". */
    static String faultOf(String text) {
        FatLean x = new FatLean();
        feed(x, text);
        int answer = x.text();
        return answer + "/" + x.fault();
    }

    /** Every answer that a call without change can give of the state, but for the dear ones. */
    static String all(FatLean x) {
        StringBuilder s = new StringBuilder();
        for (int what = 0; what <= 13; what++) {
            s.append(x.rule(what)).append(' ');
        }
        s.append('|');
        for (int i = 0; i < x.rule(0); i++) {
            s.append(x.land(i, 0)).append(',').append(x.land(i, 1)).append(' ');
        }
        s.append('|');
        for (int r = 0; r < x.rule(1); r++) {
            s.append(x.reading(r, 0)).append(',').append(x.reading(r, 1)).append(':');
            for (int y = 0; y < 8; y++) {
                s.append(x.reading(r, 10 + y));
            }
            s.append(' ').append(x.stewards(r, 0)).append('.').append(x.stewards(r, 1)).append(' ');
        }
        s.append('|');
        for (int what = 0; what <= 5; what++) {
            s.append(x.count(what)).append(' ');
        }
        return s.append('|').append(x.fault()).append(' ').append(x.torn()).append(' ').append(x.can()).toString();
    }
}
