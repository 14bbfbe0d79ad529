/** Promises 20 to 25: nets, what they carry, how they hang together. */
public final class NetsTest {
    private static final Check CHECK = new Check();

    public static void main(String[] args) {
        nets();
        joins();
        sticksAndBridges();
        opens();
        levels();
        groups();
        thePairs();
        CHECK.finish();
    }

    private static void nets() {
        EdgeChain x = new EdgeChain();
        for (int i = 0; i < 8; i++) {
            CHECK.due("net " + i, x.net(), i);
        }
        CHECK.due("the ninth", x.net(), Check.FULL);
        CHECK.due("count(4)", x.count(4), 8);
    }

    private static void joins() {
        EdgeChain x = Check.board(Check.THREE, 0, 1, 2);
        CHECK.due("no net", x.join(0, 0, 0), Check.BAD);
        x.net();
        x.net();
        CHECK.due("join(0, 0, 0)", x.join(0, 0, 0), 1);
        CHECK.due("join(0, 2, 1)", x.join(0, 2, 1), 2);
        CHECK.due("on it already", x.join(0, 0, 0), Check.STATE);
        CHECK.due("on another", x.join(1, 0, 0), Check.STATE);
        int[][] bad = {{-1, 0, 1}, {2, 0, 1}, {0, -1, 1}, {0, 3, 1}, {0, 0, -1}, {0, 0, 4}, {0, 1, 0}, {2, 0, 0}};
        for (int[] b : bad) {
            CHECK.due("join(" + b[0] + ", " + b[1] + ", " + b[2] + ")", x.join(b[0], b[1], b[2]), Check.BAD);
        }
        CHECK.due("join(1, 0, 1)", x.join(1, 0, 1), 1);
        CHECK.due("netOf(0, 2)", x.netOf(0, 2), 2);
        CHECK.due("netOf(1, 2)", x.netOf(1, 2), 1);
    }

    private static void sticksAndBridges() {
        EdgeChain x = Check.nets(3);
        CHECK.due("stick(0, 1)", x.stick(0, 1), Check.NONE);
        CHECK.due("stick(0, 0)", x.stick(0, 0), 1);
        CHECK.due("count(6)", x.count(6), 1);
        CHECK.due("stick(0, NONE)", x.stick(0, Check.NONE), 0);
        CHECK.due("stick(0, NONE)", x.stick(0, Check.NONE), Check.NONE);
        CHECK.due("count(6)", x.count(6), 0);
        CHECK.due("bridge(0, 1, 1)", x.bridge(0, 1, 1), Check.NONE);
        CHECK.due("bridge(1, 0, 0)", x.bridge(1, 0, 0), 1);
        CHECK.due("count(5)", x.count(5), 1);
        CHECK.due("bridge(0, 1, NONE)", x.bridge(0, 1, Check.NONE), 0);
        CHECK.due("bridge(0, 1, NONE)", x.bridge(0, 1, Check.NONE), Check.NONE);
        CHECK.due("count(5)", x.count(5), 0);
        for (int v : new int[] {2, -1, -2, -3, -5}) {
            CHECK.due("stick(0, " + v + ")", x.stick(0, v), Check.BAD);
            CHECK.due("bridge(0, 1, " + v + ")", x.bridge(0, 1, v), Check.BAD);
        }
        for (int n : new int[] {-1, 3, Check.NONE, Integer.MAX_VALUE}) {
            CHECK.due("stick(" + n + ", 0)", x.stick(n, 0), Check.BAD);
            CHECK.due("bridge(" + n + ", 0, 0)", x.bridge(n, 0, 0), Check.BAD);
            CHECK.due("bridge(0, " + n + ", 0)", x.bridge(0, n, 0), Check.BAD);
            CHECK.due("netOf(" + n + ", 0)", x.netOf(n, 0), Check.BAD);
        }
        CHECK.due("one and the same", x.bridge(2, 2, 0), Check.BAD);
        CHECK.due("netOf(0, 4)", x.netOf(0, 4), Check.BAD);
        CHECK.due("netOf(0, -1)", x.netOf(0, -1), Check.BAD);
    }

    /** Chip 0 drives by cells 1, 2; chip 1 by cell 0. */
    private static EdgeChain wired() {
        EdgeChain x = Check.board(Check.THREE, 0, 2);
        for (int i = 0; i < 3; i++) {
            x.net();
        }
        x.join(0, 0, 1);
        x.join(1, 0, 2);
        x.join(1, 1, 0);
        x.join(0, 1, 1);
        x.join(2, 0, 0);
        return x;
    }

    private static void opens() {
        EdgeChain x = wired();
        CHECK.due("open(0, 0, true)", x.open(0, 0, true), 0);
        CHECK.due("open(0, 0, true)", x.open(0, 0, true), 1);
        CHECK.due("count(7)", x.count(7), 1);
        CHECK.due("open(1, 1, true)", x.open(1, 1, true), 0);
        CHECK.due("count(7)", x.count(7), 2);
        CHECK.due("open(0, 0, false)", x.open(0, 0, false), 1);
        CHECK.due("open(0, 0, false)", x.open(0, 0, false), 0);
        CHECK.due("count(7)", x.count(7), 1);
        int[][] bad = {{-1, 0}, {2, 0}, {0, 4}, {0, -1}, {1, 2}};
        for (int[] b : bad) {
            CHECK.due("open(" + b[0] + ", " + b[1] + ")", x.open(b[0], b[1], true), Check.BAD);
        }
    }

    private static void levels() {
        EdgeChain x = wired();
        CHECK.due("out feet drive 0 outside extest", x.netOf(0, 1), 0);
        CHECK.due("no foot drives", x.netOf(2, 1), 1);
        CHECK.due("feet of chip 0", x.chipOf(0, 5), 9);
        CHECK.due("feet of chip 1", x.chipOf(1, 5), 0);
        x.open(0, 1, true);
        CHECK.due("an open foot does not drive", x.netOf(0, 1), 1);
        CHECK.due("its in foot sees 1", x.chipOf(1, 5), 2);
        x.open(1, 1, true);
        x.open(0, 1, false);
        CHECK.due("an open in foot has 1", x.chipOf(1, 5), 2);
        x.open(1, 1, false);
        Check.scan(x, true, "100" + "0000");
        Check.scan(x, false, "10" + "0110");
        CHECK.due("latches of chip 0", x.chipOf(0, 4), 6);
        CHECK.due("latches of chip 1", x.chipOf(1, 4), 1);
        CHECK.due("net 0 is up", x.netOf(0, 0), 1);
        CHECK.due("both feet drive 1", x.netOf(1, 0), 1);
        CHECK.due("feet of chip 1", x.chipOf(1, 5), 3);
        Check.scan(x, false, "00" + "0110");
        CHECK.due("caught: " + Check.log(x), Check.log(x).equals("111111") ? 1 : 0, 1);
        CHECK.due("the least of two", x.netOf(1, 0), 0);
        CHECK.due("own level", x.netOf(1, 1), 0);
        CHECK.due("what a foot drives stands there", x.chipOf(0, 5), 15);
        x.open(1, 0, true);
        CHECK.due("one foot drives", x.netOf(1, 0), 1);
        x.open(0, 2, true);
        CHECK.due("none drives", x.netOf(1, 0), 1);
        CHECK.due("an open out foot has 0", x.chipOf(0, 5), 11);
        x.stick(2, 0);
        CHECK.due("stuck", x.netOf(2, 0), 0);
        CHECK.due("its own level", x.netOf(2, 1), 1);
        CHECK.due("seen at the foot", x.chipOf(0, 5), 10);
    }

    private static void groups() {
        EdgeChain x = wired();
        Check.scan(x, true, "100" + "0000");
        Check.scan(x, false, "00" + "0100");
        // own levels: 1, 0, 1
        x.bridge(0, 1, 1);
        CHECK.due("the greatest", x.netOf(1, 0), 1);
        CHECK.due("own level stays", x.netOf(1, 1), 0);
        CHECK.due("netOf(1, 3)", x.netOf(1, 3), 0);
        CHECK.due("netOf(2, 3)", x.netOf(2, 3), 2);
        x.bridge(2, 1, 0);
        CHECK.due("the least, if one of kind 0 is among them", x.netOf(0, 0), 0);
        CHECK.due("net 2", x.netOf(2, 0), 0);
        CHECK.due("netOf(2, 3)", x.netOf(2, 3), 0);
        x.stick(2, 1);
        CHECK.due("a stuck one beats all", x.netOf(0, 0), 1);
        x.stick(1, 0);
        CHECK.due("the least stuck one", x.netOf(2, 0), 0);
        x.stick(1, 1);
        x.stick(2, 0);
        CHECK.due("the least stuck one, not the least level", x.netOf(2, 0), 1);
        x.bridge(1, 2, Check.NONE);
        CHECK.due("apart", x.netOf(2, 0), 0);
        CHECK.due("netOf(2, 3)", x.netOf(2, 3), 2);
    }

    /** Nets joined in a roundabout way hang together all the same. */
    private static void thePairs() {
        EdgeChain x = Check.nets(8);
        int[][] pairs = {{6, 7}, {2, 7}, {3, 6}, {3, 5}, {0, 1}};
        for (int[] p : pairs) {
            x.bridge(p[0], p[1], 1);
        }
        int[] due = {0, 0, 2, 2, 4, 2, 2, 2};
        for (int i = 0; i < 8; i++) {
            CHECK.due("netOf(" + i + ", 3)", x.netOf(i, 3), due[i]);
            CHECK.due("netOf(" + i + ", 0)", x.netOf(i, 0), 1);
        }
        x.stick(5, 0);
        for (int i = 0; i < 8; i++) {
            CHECK.due("stuck: netOf(" + i + ", 0)", x.netOf(i, 0), due[i] == 2 ? 0 : 1);
        }
        CHECK.due("count(5)", x.count(5), 5);
        x.bridge(6, 3, Check.NONE);
        CHECK.due("netOf(7, 3)", x.netOf(7, 3), 2);
        CHECK.due("netOf(5, 3)", x.netOf(5, 3), 3);
    }
}
