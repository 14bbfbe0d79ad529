/** The sentences on ticks, ways, scans and the log: promises 10 to 16. */
final class TickSentences {
    private static final int[][] GOES = {{1, 0}, {1, 2}, {3, 9}, {4, 5}, {4, 5}, {6, 8}, {6, 7}, {4, 8}, {1, 2}, {10, 0},
        {11, 12}, {11, 12}, {13, 15}, {13, 14}, {11, 15}, {1, 2}};
    private final Sentences s;

    private TickSentences(Sentences s) {
        this.s = s;
    }

    static void hold(Sentences s) {
        TickSentences t = new TickSentences(s);
        t.promiseTick();
        t.promiseTicks();
        t.promiseNow();
        t.promisePath();
        t.promiseGo();
        t.scanWays();
        t.scanBits();
        t.scanRefusals();
        t.promiseLog();
    }

    private void promiseTick() {
        s.promise(10);
        s.says("A TICK: what leaves the chain (SHIFT)");
        EdgeChain x = Check.board("part 2;", 0);
        x.go(11);
        s.due("1 was captured", x.tick(false, false), 1);
        s.due("its 0", x.tick(false, true), 0);
        s.due("what came", x.tick(false, true), 0);
        s.due("what came", x.tick(false, true), 1);
        x.go(4);
        s.due("0 was captured", x.tick(false, true), 0);
        s.due("what came", x.tick(false, false), 1);
        s.due("what came", x.tick(true, true), 0);
        s.says("NONE in other STATES (the one ahead of going on).");
        for (int state = 0; state < 16; state++) {
            for (int m = 0; m < 2; m++) {
                EdgeChain y = Check.board("part 2;", 0);
                y.cut(1, m);
                y.go(state);
                int want = state == 4 || state == 11 ? m : Check.NONE;
                s.due("in state " + state + " with M " + m, y.tick(m == 1, false), want);
            }
        }
        s.says("STATE: there are no CHIPS.");
        EdgeChain none = Check.board("part 2;");
        for (int i = 0; i < 4; i++) {
            s.due("tick()", none.tick(i % 2 == 1, i > 1), Check.STATE);
        }
        s.due("now(0)", none.now(0), 0);
        s.due("now(1)", none.now(1), 0);
    }

    private void promiseTicks() {
        s.promise(11);
        s.says("n TICKS (1 to 31) by bits of M, of D, the lowest first:");
        for (int n = 1; n <= 31; n++) {
            EdgeChain x = Check.board("part 2;", 0);
            s.due("ticks(" + n + ")", x.ticks(n, 0, -1), 0);
            s.due("now(1)", x.now(1), n);
        }
        EdgeChain m = Check.board("part 2;", 0);
        m.ticks(5, 0b00110, 0);
        s.due("by M 0, 1, 1, 0, 0", m.now(0), 11);
        m.ticks(4, 0b1011, 0);
        s.due("by M 1, 1, 0, 1", m.now(0), 2);
        EdgeChain d = Check.board("part 8;", 0);
        d.go(11);
        d.ticks(8, 0, 0b11010010);
        s.due("by D 0, 1, 0, 0, 1, 0, 1, 1", d.chipOf(0, 2), 0b11010010);
        d.ticks(31, 0, 1 << 31);
        s.due("bit 31 of D is not used", d.chipOf(0, 2), 0);
        d.ticks(31, 1 << 31, 0);
        s.due("bit 31 of M is not used", d.now(0), 11);
        d.ticks(31, 1 << 30, 1 << 30);
        s.due("bit 30 of M is used", d.now(0), 12);
        s.due("bit 30 of D is used", d.chipOf(0, 2), 128);
        s.says("what leaves the chain as bits, the lowest first");
        EdgeChain x = Check.board("part 2;", 0);
        x.go(4);
        s.due("D as it came, one later", x.ticks(31, 0, 0b10110), 0b101100);
        s.due("31 bits", x.ticks(31, 0, -1), Integer.MAX_VALUE - 1);
        s.due("31 bits of 1", x.ticks(31, 0, -1), Integer.MAX_VALUE);
        s.due("one bit", x.ticks(1, 0, 0), 1);
        s.says("(0 where nothing leaves).");
        EdgeChain y = Check.board("part 2;", 0);
        y.cut(1, 1);
        s.due("31 TICKS in RESET", y.ticks(31, -1, -1), 0);
        s.due("five to SHIFT ORDERS, one in it", y.ticks(6, 0b000110, -1), 0b100000);
        s.due("PAUSE, and back", y.ticks(6, 0b000101, 0), 0b110001);
        s.says("BAD;");
        for (int n : new int[] {0, -1, 32, 33, 64, -4, Integer.MAX_VALUE, Integer.MIN_VALUE}) {
            s.due("ticks(" + n + ")", y.ticks(n, 0, 0), Check.BAD);
            s.due("ticks(" + n + ") of no CHIPS", new EdgeChain().ticks(n, 0, 0), Check.BAD);
        }
        s.says("STATE: no CHIPS.");
        for (int n : new int[] {1, 31}) {
            s.due("ticks(" + n + ")", Check.board("part 2;").ticks(n, -1, -1), Check.STATE);
        }
    }

    private void promiseNow() {
        s.promise(12);
        EdgeChain x = Check.board("part 2;", 0);
        s.says("The STATE (what 0)");
        s.due("now(0) at first", x.now(0), 0);
        for (int state = 0; state < 16; state++) {
            x.go(state);
            s.due("now(0)", x.now(0), state);
        }
        s.says("how many TICKS so far (1).");
        EdgeChain y = Check.board("part 2;", 0);
        s.due("now(1) at first", y.now(1), 0);
        y.tick(true, false);
        s.due("a TICK", y.now(1), 1);
        y.ticks(31, 0, 0);
        s.due("31 more", y.now(1), 32);
        y.go(1);
        s.due("none more", y.now(1), 32);
        y.go(0);
        s.due("3 more", y.now(1), 35);
        int scanned = Check.scan(y, true, "11");
        s.due("those of scan()", y.now(1), 35 + scanned);
        int before = y.now(1);
        y.broken();
        s.due("those of broken()", y.now(1), before + 5 + 5 + 2);
        s.says("BAD.");
        for (int what : new int[] {-1, 2, 3, -4, Integer.MAX_VALUE, Integer.MIN_VALUE}) {
            s.due("now(" + what + ")", y.now(what), Check.BAD);
        }
    }

    /** How many rows of M of a length lead from a state to another; the least of them is kept in least. */
    private int least;

    private int waysOf(int a, int b, int length) {
        int ways = 0;
        for (int row = (1 << length) - 1; row >= 0; row--) {
            int state = a;
            for (int i = 0; i < length; i++) {
                state = GOES[state][row >> i & 1];
            }
            if (state == b) {
                ways++;
                least = row;
            }
        }
        return ways;
    }

    private void promisePath() {
        s.promise(13);
        EdgeChain x = new EdgeChain();
        s.says("The fewest TICKS from a STATE to another one (what 0)");
        s.due("path(0, 4, 0)", x.path(0, 4, 0), 4);
        s.due("path(4, 0, 0)", x.path(4, 0, 0), 5);
        for (int a = 0; a < 16; a++) {
            s.due("path(" + a + ", " + a + ", 0)", new EdgeChain().path(a, a, 0), 0);
            for (int b = 0; b < 16; b++) {
                int fewest = 0;
                while (waysOf(a, b, fewest) == 0) {
                    fewest++;
                }
                s.due("path(" + a + ", " + b + ", 0)", new EdgeChain().path(a, b, 0), fewest);
            }
        }
        s.says("their M as bits, the lowest first, the least number of several (1).");
        s.due("path(0, 11, 1): 0, 1, 1, 0, 0", x.path(0, 11, 1), 0b00110);
        s.due("path(11, 1, 1): 1, 1, 0", x.path(11, 1, 1), 0b011);
        for (int a = 0; a < 16; a++) {
            s.due("path(" + a + ", " + a + ", 1)", new EdgeChain().path(a, a, 1), 0);
            for (int b = 0; b < 16; b++) {
                int fewest = 0;
                while (waysOf(a, b, fewest) == 0) {
                    fewest++;
                }
                s.due("path(" + a + ", " + b + ", 1)", new EdgeChain().path(a, b, 1), least);
            }
        }
        s.says("BAD.");
        for (int n : new int[] {-1, 16, 17, -4, Integer.MAX_VALUE, Integer.MIN_VALUE}) {
            s.due("path(" + n + ", 0, 0)", x.path(n, 0, 0), Check.BAD);
            s.due("path(0, " + n + ", 1)", x.path(0, n, 1), Check.BAD);
            s.due("path(0, 15, " + n + ")", x.path(0, 15, n), Check.BAD);
        }
        s.due("path(15, 15, 2)", x.path(15, 15, 2), Check.BAD);
    }

    private void promiseGo() {
        s.promise(14);
        s.says("By the fewest TICKS (that row of M, D 1) to a STATE: how many.");
        for (int a = 0; a < 16; a++) {
            for (int b = 0; b < 16; b++) {
                EdgeChain x = Check.board("part 8;", 0);
                x.go(a);
                int before = x.now(1);
                s.due("go(" + b + ") from " + a, x.go(b), x.path(a, b, 0));
                s.due("now(1)", x.now(1) - before, x.path(a, b, 0));
                s.due("now(0)", x.now(0), b);
            }
        }
        EdgeChain d = Check.board("part 8;", 0);
        d.go(11);
        s.due("go(11) in it", d.go(11), 0);
        s.due("no TICK", d.chipOf(0, 2), 1);
        d.go(13);
        s.due("one TICK in SHIFT ORDERS with D 1", d.chipOf(0, 2), 128);
        s.says("BAD;");
        for (int b : new int[] {-1, 16, 17, -4, Integer.MAX_VALUE, Integer.MIN_VALUE}) {
            s.due("go(" + b + ")", d.go(b), Check.BAD);
            s.due("go(" + b + ") of no CHIPS", new EdgeChain().go(b), Check.BAD);
        }
        s.says("STATE: no CHIPS.");
        for (int b = 0; b < 16; b++) {
            s.due("go(" + b + ")", Check.board("part 2;").go(b), Check.STATE);
        }
    }

    private void scanWays() {
        s.promise(15);
        s.says("From any STATE: go(SHIFT ORDERS) (orders true), go(SHIFT DATA);");
        for (int state = 0; state < 16; state++) {
            EdgeChain x = Check.board("part 2 id 7;", 0);
            x.go(state);
            s.due("orders from " + state, Check.scan(x, true, "1"), x.path(state, 11, 0) + 3);
            s.due("an order register was shifted", x.chipOf(0, 2) >> 1, 1);
            EdgeChain y = Check.board("part 2;", 0);
            y.go(state);
            int orders = y.chipOf(0, 2);
            s.due("data from " + state, Check.scan(y, false, "1"), y.path(state, 4, 0) + 3);
            s.due("a data register was shifted", y.chipOf(0, 3), 1);
            if (state < 10) {
                s.due("the order register was not", y.chipOf(0, 2), orders);
            }
        }
        s.says("then go(IDLE).");
        for (int orders = 0; orders < 2; orders++) {
            EdgeChain x = Check.board("part 2 extest 0 cells oo;", 0);
            Check.scan(x, true, "00");
            s.due("now(0)", x.now(0), 1);
            s.due("UPDATE ORDERS was passed", x.chipOf(0, 1), 3);
            Check.scan(x, false, "11");
            s.due("now(0)", x.now(0), 1);
            s.due("UPDATE DATA was passed", x.chipOf(0, 4), 3);
        }
        s.says("How many TICKS in all.");
        EdgeChain y = Check.board("part 2;", 0);
        s.due("from RESET, one bit", Check.scan(y, true, "1"), 5 + 1 + 2);
        s.due("from IDLE, one bit", Check.scan(y, true, "1"), 4 + 1 + 2);
        s.due("from IDLE, data", Check.scan(y, false, "111"), 3 + 3 + 2);
        s.due("now(1)", y.now(1), 8 + 7 + 8);
        y.sheet(0, 2, 99);
        s.due("99 bits", y.scan(false, 0, 2, 0, 99), 3 + 99 + 2);
        y.go(4);
        s.due("in SHIFT DATA", y.scan(false, 0, 2, 0, 99), 99 + 2);
    }

    private void scanBits() {
        s.says("then n (1 to 99) TICKS with D of CELLS f + i of a SHEET taken as of a lane (the lowest bit), M 0, but 1 in the last one;");
        for (int lane = 0; lane < 3; lane++) {
            EdgeChain x = Check.board("part 8;", 0);
            x.sheet(lane, lane, 100);
            for (int i = 92; i < 100; i++) {
                x.lay(lane, i, i % 3 == 0 ? -1 : -2);
            }
            s.due("the last eight CELLS", x.scan(true, lane, lane, 92, 8), 5 + 8 + 2);
            s.due("CELLS 93, 96, 99", x.chipOf(0, 2), 2 + 16 + 128);
            s.due("99 CELLS from 1 on", x.scan(true, lane, lane, 1, 99), 4 + 99 + 2);
            s.due("CELLS 93, 96, 99", x.chipOf(0, 2), 2 + 16 + 128);
            s.due("one CELL", x.scan(true, lane, lane, 99, 1), 4 + 1 + 2);
            s.due("CELL 99, then 1 shifted", x.chipOf(0, 2), 128);
            x.lay(lane, 0, 256);
            x.lay(lane, 1, 65536);
            x.lay(lane, 2, 257);
            x.lay(lane, 3, 65537);
            x.lay(lane, 4, Integer.MIN_VALUE);
            x.lay(lane, 5, Integer.MAX_VALUE);
            x.scan(true, lane, lane, 0, 8);
            s.due("the lowest bits", x.chipOf(0, 2), 4 + 8 + 32);
        }
        EdgeChain y = Check.board("part 2 id 5;", 0);
        y.go(11);
        s.due("a scan of two in SHIFT ORDERS", Check.scan(y, true, "01"), 2 + 2);
        s.due("the CODE", y.chipOf(0, 2), 2);
        s.says("What left the chain in these n: THE LOG.");
        EdgeChain z = Check.board("part 2;", 0, 0);
        Check.scan(z, true, "0110111");
        s.due("LOG of orders", Check.log(z), "1010" + "011");
        Check.scan(z, false, "011011");
        s.due("LOG of data", Check.log(z), "00" + "0110");
        z.cut(2, 1);
        z.sheet(0, 0, 99);
        z.scan(false, 0, 0, 0, 99);
        s.due("a LOG of 99", Check.log(z), "1".repeat(99));
        Check.scan(z, false, "0");
        s.due("a LOG of one", Check.log(z), "1");
    }

    private void scanRefusals() {
        s.says("BAD: n, k, lane;");
        EdgeChain x = Check.board("part 2;", 0);
        x.sheet(0, 0, 100);
        for (int n : new int[] {0, -1, 100, 101, Integer.MAX_VALUE, Integer.MIN_VALUE}) {
            s.due("n " + n, x.scan(true, 0, 0, 0, n), Check.BAD);
        }
        for (int k : new int[] {-1, 4, 5, -4, Integer.MAX_VALUE, Integer.MIN_VALUE}) {
            s.due("k " + k, x.scan(true, k, 0, 0, 1), Check.BAD);
        }
        for (int lane : new int[] {-1, 3, 4, -4, Integer.MAX_VALUE, Integer.MIN_VALUE}) {
            s.due("lane " + lane, x.scan(true, 0, lane, 0, 1), Check.BAD);
        }
        s.due("lane 3 of nothing", x.scan(true, 1, 3, 0, 1), Check.BAD);
        s.says("STATE: no CHIPS;");
        EdgeChain none = new EdgeChain();
        s.due("of nothing", none.scan(true, 0, 0, 0, 1), Check.STATE);
        none.sheet(0, 0, 100);
        s.due("of CELLS", none.scan(false, 0, 0, 0, 99), Check.STATE);
        s.due("another lane", none.scan(false, 0, 1, 0, 99), Check.STATE);
        s.due("n 0", none.scan(true, 0, 0, 0, 0), Check.BAD);
        s.says("-10 less the FAULT: NULL, CAST, INDEX (of any CELL):");
        EdgeChain y = Check.board("part 2;", 0);
        for (int lane = 0; lane < 3; lane++) {
            y.sheet(lane, lane, 5);
            for (int taken = 0; taken < 3; taken++) {
                s.due("nothing as lane " + taken, y.scan(true, 3, taken, 0, 1), -11);
                s.due("lane " + lane + " as " + taken + ", f -1", y.scan(true, lane, taken, -1, 1), taken == lane ? -12 : -13);
            }
            int[][] outside = {{-1, 1}, {-1, 5}, {-99, 99}, {0, 6}, {1, 5}, {4, 2}, {5, 1}, {6, 1}, {0, 99}, {Integer.MAX_VALUE, 1},
                {Integer.MAX_VALUE, 2}, {Integer.MAX_VALUE - 1, 99}, {Integer.MIN_VALUE, 1}, {Integer.MIN_VALUE, 99}};
            for (int[] f : outside) {
                s.due("f " + f[0] + ", n " + f[1], y.scan(false, lane, lane, f[0], f[1]), -12);
            }
        }
        y.sheet(3, 1, 0);
        s.due("no CELLS", y.scan(true, 3, 1, 0, 1), -12);
        s.due("no CELLS, another lane", y.scan(true, 3, 0, 0, 1), -13);
        s.says("then no TICK.");
        s.due("now(1)", y.now(1), 0);
        s.due("now(0)", y.now(0), 0);
        s.due("count(8)", y.count(8), 0);
        s.due("the first that is taken", y.scan(true, 0, 0, 0, 5), 5 + 5 + 2);
        y.scan(true, 0, 0, 1, 5);
        s.due("now(1)", y.now(1), 12);
        s.due("the LOG stays", y.count(8), 5);
    }

    private void promiseLog() {
        s.promise(16);
        s.says("Bit i of THE LOG.");
        EdgeChain x = Check.board("part 2;", 0);
        Check.scan(x, false, "0100110");
        s.due("LOG", Check.log(x), "0010011");
        s.due("log(0)", x.log(0), 0);
        s.due("log(2)", x.log(2), 1);
        s.due("log(6)", x.log(6), 1);
        s.says("BAD: i below 0;");
        for (int i : new int[] {-1, -2, -4, Integer.MIN_VALUE}) {
            s.due("log(" + i + ")", x.log(i), Check.BAD);
            s.due("log(" + i + ") without a LOG", new EdgeChain().log(i), Check.BAD);
        }
        s.says("NONE: there is none.");
        for (int i : new int[] {7, 8, 98, 99, 100, Integer.MAX_VALUE}) {
            s.due("log(" + i + ")", x.log(i), Check.NONE);
        }
        for (int i : new int[] {0, 1, 99, Integer.MAX_VALUE}) {
            s.due("log(" + i + ") without a LOG", new EdgeChain().log(i), Check.NONE);
        }
        Check.scan(x, false, "11");
        s.due("log(1) of a shorter LOG", x.log(1), 1);
        s.due("log(2) of a shorter LOG", x.log(2), Check.NONE);
    }
}
