/** What the tests share: answers that are due, texts on the tape, and boards that are made often. */
final class Check {
    static final int BAD = -1, STATE = -2, FULL = -3, NONE = -4;
    /** Three parts: one with all items, one with a length alone, one without an identity. */
    static final String THREE = "part 4 id 305419897 sample 2 extest 0 cells iooi; part 2; part 3 extest 1 cells oi;";

    private int wrong;
    private int asked;

    void due(String call, long got, long want) {
        asked++;
        if (got != want) {
            wrong++;
            System.out.println(call + " answered " + got + ", due is " + want);
        }
    }

    void finish() {
        System.out.println(wrong == 0 ? asked + " answers are as due" : wrong + " of " + asked + " answers are not as due");
        if (wrong != 0) {
            System.exit(1);
        }
    }

    static void feed(EdgeChain x, String text) {
        for (int i = 0; i < text.length(); i += 8) {
            long v = 0;
            for (int j = i; j < i + 8; j++) {
                v = v << 8 | (j < text.length() ? text.charAt(j) & 255 : 32);
            }
            x.feed(v);
        }
        x.end(text.length());
    }

    static int tell(EdgeChain x, String text) {
        feed(x, text);
        return x.parts();
    }

    static EdgeChain board(String text, int... parts) {
        EdgeChain x = new EdgeChain();
        tell(x, text);
        for (int p : parts) {
            x.chip(p);
        }
        return x;
    }

    static EdgeChain nets(int n) {
        EdgeChain x = new EdgeChain();
        for (int i = 0; i < n; i++) {
            x.net();
        }
        return x;
    }

    /** Lays the bits (a text of 0 and 1, the first shifted first) on a sheet and scans them. */
    static int scan(EdgeChain x, boolean orders, String bits) {
        x.sheet(3, 2, bits.length());
        for (int i = 0; i < bits.length(); i++) {
            x.lay(3, i, bits.charAt(i) - '0');
        }
        return x.scan(orders, 3, 2, 0, bits.length());
    }

    static String log(EdgeChain x) {
        StringBuilder s = new StringBuilder();
        for (int i = 0; i < x.count(8); i++) {
            s.append(x.log(i));
        }
        return s.toString();
    }
}
