/** The sentences on chips, orders, states, ticks and breaks: terms, promises 7 to 9. */
final class ChipSentences {
    /** 0 drives a cell and reads one; 1 has a length alone; 2 has an identity and the greatest codes. */
    private static final String TEXT = "part 4 sample 2 extest 5 cells oi;part 2;part 3 id 305419897 sample 6 extest 0 cells iooi;";
    private static final int[][] GOES = {{1, 0}, {1, 2}, {3, 9}, {4, 5}, {4, 5}, {6, 8}, {6, 7}, {4, 8}, {1, 2}, {10, 0},
        {11, 12}, {11, 12}, {13, 15}, {13, 14}, {11, 15}, {1, 2}};
    private final Sentences s;

    private ChipSentences(Sentences s) {
        this.s = s;
    }

    static void hold(Sentences s) {
        ChipSentences t = new ChipSentences(s);
        t.chips();
        t.orders();
        t.states();
        t.orderTicks();
        t.dataTicks();
        t.cellTicks();
        t.registers();
        t.breaks();
        t.promiseChip();
        t.promiseChipOf();
        t.promiseCut();
    }

    /** Shifts a code into all order registers together and takes it over; the chain is in IDLE then. */
    static void order(EdgeChain x, int bits, int codes) {
        x.go(11);
        x.ticks(bits, 1 << bits - 1, codes);
        x.go(1);
    }

    /** Shifts data and takes them over; the chain is in IDLE then. */
    static int data(EdgeChain x, int bits, int data) {
        x.go(4);
        int left = x.ticks(bits, 1 << bits - 1, data);
        x.go(1);
        return left;
    }

    private static int orderBy(String text, int length, int code) {
        EdgeChain x = Check.board(text, 0);
        order(x, length, code);
        return x.chipOf(0, 1);
    }

    private void chips() {
        s.terms("CHIPS (6), each of a PART");
        s.says("CHIPS (6), each of a PART, are numbered as they come:");
        EdgeChain x = Check.board(TEXT);
        int[] parts = {2, 0, 1, 1, 2, 0};
        for (int c = 0; c < 6; c++) {
            s.due("chip " + c, x.chip(parts[c]), c);
        }
        s.due("the seventh", x.chip(0), Check.FULL);
        for (int c = 0; c < 6; c++) {
            s.due("chipOf(" + c + ", 0)", x.chipOf(c, 0), parts[c]);
        }
        s.says("data come into CHIP 0, from each CHIP into the next one, out of the last one.");
        for (int n = 1; n <= 6; n++) {
            EdgeChain y = Check.board("part 2;", java.util.Arrays.copyOf(new int[6], n));
            y.go(4);
            for (int t = 0; t <= n; t++) {
                s.due("tick " + t + " of " + n, y.tick(false, t == 0), t == n ? 1 : 0);
                for (int c = 0; c < n; c++) {
                    s.due("chipOf(" + c + ", 3)", y.chipOf(c, 3), c == t ? 1 : 0);
                }
            }
        }
    }

    private void orders() {
        s.says("ORDERS: BYPASS (all ones, and each CODE that is not told;");
        for (int length = 2; length <= 8; length++) {
            int ones = (1 << length) - 1;
            String told = "part " + length + " id 7 sample 0 extest 1 cells oi;";
            s.due("all ones of " + length, orderBy(told, length, ones), 0);
            s.due("all ones of " + length + ", nothing told", orderBy("part " + length + ";", length, ones), 0);
            for (int code = 2; code < ones - 1; code++) {
                s.due("code " + code + " of " + length, orderBy(told, length, code), 0);
            }
            for (int code = 0; code < ones; code++) {
                s.due("code " + code + " of " + length + ", nothing told", orderBy("part " + length + ";", length, code), 0);
            }
        }
        s.says("IDENTITY, where the PART has one: CODE 2 to the LENGTH, less 2, if it is not told for another ORDER);");
        for (int length = 2; length <= 8; length++) {
            int code = (1 << length) - 2;
            s.due("identity of " + length, orderBy("part " + length + " id 7;", length, code), 1);
            s.due("identity of " + length + ", cells", orderBy("part " + length + " id 7 extest 0 cells i;", length, code), 1);
            s.due("no id, " + length, orderBy("part " + length + " extest 0 cells i;", length, code), 0);
            s.due("sample has it, " + length, orderBy("part " + length + " id 7 extest 0 sample " + code + " cells i;", length, code), 2);
            s.due("extest has it, " + length, orderBy("part " + length + " id 7 extest " + code + " cells i;", length, code), 3);
            s.due("less 3 of " + length, length == 2 ? 0 : orderBy("part " + length + " id 7;", length, code - 1), 0);
        }
        s.says("SAMPLE, EXTEST.");
        for (int length = 2; length <= 8; length++) {
            int most = (1 << length) - 2;
            for (int code : new int[] {0, 1, most}) {
                int other = code == 0 ? 1 : 0;
                String sample = "part " + length + " sample " + code + " extest " + other + " cells oi;";
                String extest = "part " + length + " extest " + code + " sample " + other + " cells oi;";
                s.due("'" + sample + "' by " + code, orderBy(sample, length, code), 2);
                s.due("'" + sample + "' by " + other, orderBy(sample, length, other), 3);
                s.due("'" + extest + "' by " + code, orderBy(extest, length, code), 3);
            }
        }
    }

    private void states() {
        s.terms("STATES: 0 RESET");
        s.says("STATES: 0 RESET, 1 IDLE, 2 SELECT DATA, 3 CAPTURE DATA, 4 SHIFT DATA, 5 EXIT, 6 PAUSE, 7 EXIT AGAIN, 8 UPDATE DATA, "
            + "9 SELECT ORDERS, 10 CAPTURE ORDERS, 11 SHIFT ORDERS, 12 EXIT, 13 PAUSE, 14 EXIT AGAIN, 15 UPDATE ORDERS.");
        for (int state = 0; state < 16; state++) {
            EdgeChain x = inState(state);
            s.due("go(" + state + ")", x.now(0), state);
            String before = registersOf(x);
            int order = x.chipOf(0, 1);
            x.tick(false, true);
            boolean acts = state == 0 || state == 3 || state == 4 || state == 8 || state == 10 || state == 11 || state == 15;
            boolean changed = order != x.chipOf(0, 1) || !before.equals(registersOf(x));
            s.due("state " + state + " does something", changed ? 1 : 0, acts ? 1 : 0);
        }
        s.says("Each goes on by M to (the first number with M 0, the second with M 1): 0: 1, 0. 1: 1, 2. 2: 3, 9. 3: 4, 5. 4: 4, 5. "
            + "5: 6, 8. 6: 6, 7. 7: 4, 8. 8: 1, 2. 9: 10, 0. 10: 11, 12. 11: 11, 12. 12: 13, 15. 13: 13, 14. 14: 11, 15. 15: 1, 2.");
        for (int state = 0; state < 16; state++) {
            for (int m = 0; m < 2; m++) {
                for (int d = 0; d < 2; d++) {
                    EdgeChain x = Check.board(TEXT, 1);
                    x.go(state);
                    x.tick(m == 1, d == 1);
                    s.due("from " + state + " by M " + m + ", D " + d, x.now(0), GOES[state][m]);
                }
            }
        }
        s.says("RESET at first.");
        s.due("now(0)", new EdgeChain().now(0), 0);
        s.due("now(0) with a CHIP", Check.board(TEXT, 0).now(0), 0);
    }

    /** A chip in EXTEST whose next order, register and latches would all differ from what they are. */
    private static EdgeChain inState(int state) {
        EdgeChain x = Check.board("part 3 id 5 extest 0 cells ooi;", 0);
        order(x, 3, 0);
        data(x, 3, 1);
        if (state == 0) {
            x.go(0);
        } else if (state >= 10) {
            x.go(11);
            x.ticks(3, state == 11 ? 0 : 4, 6);
            x.go(state);
        } else {
            x.go(4);
            x.ticks(3, state == 4 ? 0 : 4, 2);
            x.go(state);
        }
        return x;
    }

    private static String registersOf(EdgeChain x) {
        return x.chipOf(0, 2) + " " + x.chipOf(0, 3) + " " + x.chipOf(0, 4);
    }

    private void orderTicks() {
        s.terms("A TICK with M and D");
        s.says("A TICK with M and D: first what the STATE does, then it goes on by M.");
        EdgeChain x = Check.board("part 3 id 7;", 0);
        x.go(10);
        s.due("ahead of the TICK in CAPTURE ORDERS", x.chipOf(0, 2), 0);
        x.tick(true, false);
        s.due("behind it", x.chipOf(0, 2), 1);
        s.due("EXIT", x.now(0), 12);
        x.go(3);
        s.due("ahead of the TICK in CAPTURE DATA", x.chipOf(0, 3), 0);
        s.says("RESET: each CHIP's ORDER becomes IDENTITY, where its PART has that, else BYPASS (so it is at first).");
        EdgeChain y = Check.board(TEXT, 0, 2, 1);
        s.due("BYPASS at first", y.chipOf(0, 1), 0);
        s.due("IDENTITY at first", y.chipOf(1, 1), 1);
        s.due("BYPASS at first", y.chipOf(2, 1), 0);
        order(y, 9, 3 | 0 << 2 | 5 << 5);
        s.due("EXTEST", y.chipOf(0, 1), 3);
        s.due("EXTEST", y.chipOf(1, 1), 3);
        y.go(0);
        s.due("ahead of the TICK in RESET", y.chipOf(0, 1), 3);
        y.tick(false, false);
        s.due("BYPASS by RESET", y.chipOf(0, 1), 0);
        s.due("IDENTITY by RESET", y.chipOf(1, 1), 1);
        s.due("BYPASS by RESET", y.chipOf(2, 1), 0);
        EdgeChain other = Check.board("part 2 id 7 extest 2 cells i;part 2 id 7 extest 0 sample 2 cells i;", 0, 1);
        s.due("IDENTITY at first, its CODE told for EXTEST", other.chipOf(0, 1), 1);
        s.due("IDENTITY at first, its CODE told for SAMPLE", other.chipOf(1, 1), 1);
        s.says("CAPTURE ORDERS: its ORDER REGISTER (LENGTH bits) becomes 1.");
        for (int length = 2; length <= 8; length++) {
            EdgeChain z = Check.board("part " + length + ";", 0);
            order(z, length, (1 << length) - 1);
            s.due("all ones of " + length, z.chipOf(0, 2), (1 << length) - 1);
            z.go(11);
            s.due("captured, length " + length, z.chipOf(0, 2), 1);
        }
        s.says("SHIFT: its lowest bit leaves each register, D (or what left the CHIP ahead) comes in as its highest one.");
        for (int length = 2; length <= 8; length++) {
            EdgeChain z = Check.board("part " + length + ";part 2;", 0, 1);
            z.go(11);
            s.due("left, length " + length, z.tick(false, true), 1);
            s.due("chip 0", z.chipOf(0, 2), 1 << length - 1);
            s.due("chip 1", z.chipOf(1, 2), 2);
            s.due("left, length " + length, z.tick(false, false), 0);
            s.due("chip 0", z.chipOf(0, 2), 1 << length - 2);
            s.due("chip 1", z.chipOf(1, 2), 1);
        }
        s.says("UPDATE ORDERS: its ORDER becomes what its CODE in the ORDER REGISTER tells.");
        EdgeChain u = Check.board(TEXT, 2);
        u.go(11);
        u.ticks(3, 4, 0);
        u.go(15);
        s.due("ahead of the TICK in UPDATE ORDERS", u.chipOf(0, 1), 1);
        u.tick(true, true);
        s.due("behind it", u.chipOf(0, 1), 3);
        u.go(12);
        u.go(15);
        u.tick(false, true);
        s.due("the captured 1 is no CODE that is told", u.chipOf(0, 1), 0);
    }

    private void dataTicks() {
        s.says("DATA likewise, with the register of its ORDER:");
        EdgeChain x = Check.board(TEXT, 1, 2);
        x.go(4);
        s.due("BYPASS captured", x.chipOf(0, 3), 0);
        s.due("IDENTITY captured", x.chipOf(1, 3), 305419897);
        s.due("the lowest bit leaves", x.tick(false, true), 1);
        s.due("D came into CHIP 0", x.chipOf(0, 3), 1);
        s.due("0 came into CHIP 1", x.chipOf(1, 3), 305419897 >>> 1);
        x.tick(false, false);
        s.due("what left CHIP 0 came into CHIP 1", x.chipOf(1, 3), 305419897 >>> 2 | Integer.MIN_VALUE);
        s.due("order registers stay", x.chipOf(0, 2) + x.chipOf(1, 2), 0);
        s.says("BYPASS 1 bit, CAPTURES 0;");
        EdgeChain b = Check.board(TEXT, 1);
        s.due("what left", data(b, 5, 31), 30);
        s.due("register", b.chipOf(0, 3), 1);
        b.go(3);
        s.due("ahead of the capture", b.chipOf(0, 3), 1);
        b.tick(true, true);
        s.due("captured", b.chipOf(0, 3), 0);
        s.says("IDENTITY 32 bits, CAPTURES the IDENTITY;");
        for (int id : new int[] {1, 999999999}) {
            EdgeChain i = Check.board("part 8 id " + id + ";", 0);
            i.go(4);
            s.due("captured", i.chipOf(0, 3), id);
            s.due("31 bits leave", i.ticks(31, 0, 0), id & Integer.MAX_VALUE);
            s.due("the 32nd", i.tick(false, true), 0);
            s.due("as an int", i.chipOf(0, 3), Integer.MIN_VALUE);
            s.due("31 bits that came", i.ticks(31, 0, -1), 0);
            s.due("all ones", i.chipOf(0, 3), -1);
            s.due("the bit that came 31 ticks before", i.tick(true, true), 1);
            i.go(3);
            i.tick(true, true);
            s.due("captured again", i.chipOf(0, 3), id);
        }
    }

    private void cellTicks() {
        s.says("SAMPLE, EXTEST: a bit for each CELL, that of CELL 0 the lowest, CAPTURES what stands at the feet;");
        for (int code = 0; code < 2; code++) {
            for (int cells = 1; cells <= 10; cells++) {
                String names = "iiiiiiiiii".substring(0, cells);
                EdgeChain x = Check.board("part 2 sample 0 extest 1 cells " + names + ";", 0);
                order(x, 2, code);
                x.go(4);
                s.due("all feet are 1", x.chipOf(0, 3), (1 << cells) - 1);
                s.due("what leaves", x.ticks(cells, 0, 1), (1 << cells) - 1);
                s.due("the bit that came first is the lowest", x.chipOf(0, 3), 1);
                s.due("it leaves", x.tick(false, false), 1);
            }
            EdgeChain y = Check.board("part 2 sample 0 extest 1 cells oiio;", 0);
            order(y, 2, code);
            y.go(4);
            s.due("what stands at the feet", y.chipOf(0, 3), 6);
            y.net();
            y.net();
            y.join(0, 0, 1);
            y.join(1, 0, 2);
            y.stick(0, 0);
            y.go(3);
            y.tick(true, true);
            s.due("what stands at the feet on NETS, and at those that drive", y.chipOf(0, 3), code == 0 ? 4 : 4 + 9);
        }
        s.says("UPDATE DATA: the LATCH of each out CELL becomes its bit (SAMPLE, EXTEST alone).");
        EdgeChain z = Check.board(TEXT, 2);
        order(z, 3, 6);
        z.go(4);
        z.ticks(4, 8, 13);
        z.go(8);
        s.due("ahead of the TICK in UPDATE DATA", z.chipOf(0, 4), 0);
        z.tick(false, false);
        s.due("by SAMPLE", z.chipOf(0, 4), 4);
        order(z, 3, 0);
        data(z, 4, 11);
        s.due("by EXTEST", z.chipOf(0, 4), 2);
        order(z, 3, 7);
        data(z, 4, 15);
        s.due("not by BYPASS", z.chipOf(0, 4), 2);
        order(z, 3, 6 ^ 7);
        data(z, 4, 15);
        s.due("not by a CODE that is not told", z.chipOf(0, 4), 2);
        z.ticks(6, 31, 63);
        data(z, 31, -1);
        s.due("IDENTITY", z.chipOf(0, 1), 1);
        s.due("not by IDENTITY", z.chipOf(0, 4), 2);
    }

    private void registers() {
        s.says("Registers (each CHIP has one for ORDERS, one for BYPASS, one for IDENTITY, one for CELLS) are 0 at first");
        EdgeChain x = Check.board(TEXT, 2);
        s.due("ORDERS", x.chipOf(0, 2), 0);
        s.due("IDENTITY", x.chipOf(0, 3), 0);
        order(x, 3, 0);
        s.due("CELLS", x.chipOf(0, 3), 0);
        order(x, 3, 7);
        s.due("BYPASS", x.chipOf(0, 3), 0);
        data(x, 1, 1);
        s.due("BYPASS has 1", x.chipOf(0, 3), 1);
        order(x, 3, 0);
        s.due("CELLS, still", x.chipOf(0, 3), 0);
        data(x, 4, 10);
        s.due("CELLS have 10", x.chipOf(0, 3), 10);
        order(x, 3, 6);
        s.due("SAMPLE has the same register", x.chipOf(0, 3), 10);
        x.go(0);
        x.tick(false, false);
        s.due("IDENTITY, still", x.chipOf(0, 3), 0);
        order(x, 3, 7);
        s.due("BYPASS has it still", x.chipOf(0, 3), 1);
        s.due("ORDERS have the CODE", x.chipOf(0, 2), 7);
        s.says("LATCHES too.");
        s.due("LATCHES", Check.board(TEXT, 2).chipOf(0, 4), 0);
        EdgeChain y = Check.board(TEXT, 2);
        order(y, 3, 0);
        s.due("what stands at the feet by EXTEST", y.chipOf(0, 5), 9);
        s.due("LATCHES by EXTEST", y.chipOf(0, 4), 0);
    }

    private void breaks() {
        s.terms("BREAK: the wire");
        s.says("BREAK: the wire ahead of a CHIP (or behind the last one) is STUCK at 0 or 1: that comes, whatever leaves.");
        for (int v = 0; v < 2; v++) {
            for (int wire = 0; wire <= 3; wire++) {
                for (int d = 0; d < 2; d++) {
                    EdgeChain x = Check.board("part 2;", 0, 0, 0);
                    x.cut(wire, v);
                    x.go(4);
                    x.ticks(6, 0, -d);
                    for (int c = 0; c < 3; c++) {
                        s.due("wire " + wire + " at " + v + ", D " + d + ", chip " + c, x.chipOf(c, 3), c < wire ? d : v);
                    }
                    s.due("what leaves", x.tick(false, d == 1), v);
                    x.go(11);
                    x.ticks(8, 0, -d);
                    for (int c = 0; c < 3; c++) {
                        s.due("orders, chip " + c, x.chipOf(c, 2), 3 * (c < wire ? d : v));
                    }
                    s.due("orders: what leaves", x.tick(false, d == 1), v);
                    x.cut(wire, Check.NONE);
                    x.ticks(8, 0, -d);
                    s.due("whole again: what leaves", x.tick(false, d == 1), d);
                }
            }
        }
    }

    private void promiseChip() {
        s.promise(7);
        s.says("A CHIP behind the last one: its number.");
        EdgeChain x = Check.board(TEXT);
        s.due("chip(2)", x.chip(2), 0);
        s.due("chip(1)", x.chip(1), 1);
        s.due("count(1)", x.count(1), 2);
        x.go(4);
        s.due("what leaves is of the last one", x.tick(false, false), 0);
        s.says("BAD;");
        for (int part : new int[] {-1, 3, 4, 5, 6, -4, Integer.MAX_VALUE, Integer.MIN_VALUE}) {
            s.due("chip(" + part + ")", Check.board(TEXT).chip(part), Check.BAD);
        }
        s.due("chip(0) of no PARTS", new EdgeChain().chip(0), Check.BAD);
        s.says("STATE: not in RESET;");
        for (int state = 0; state < 16; state++) {
            EdgeChain y = Check.board(TEXT, 0);
            y.go(state);
            s.due("chip(0) in state " + state, y.chip(0), state == 0 ? 1 : Check.STATE);
            y.ticks(5, 31, 0);
            s.due("chip(0) in RESET again", y.chip(0), state == 0 ? 2 : 1);
        }
        s.says("FULL.");
        EdgeChain z = Check.board(TEXT, 0, 1, 2, 0, 1);
        s.due("the sixth", z.chip(2), 5);
        s.due("the seventh", z.chip(2), Check.FULL);
        s.due("the seventh, again", z.chip(0), Check.FULL);
        s.due("count(1)", z.count(1), 6);
    }

    private void promiseChipOf() {
        s.promise(8);
        EdgeChain x = Check.board(TEXT, 2, 1, 0);
        s.says("Of a CHIP: 0 PART");
        for (int c = 0; c < 3; c++) {
            s.due("chipOf(" + c + ", 0)", x.chipOf(c, 0), 2 - c);
        }
        s.says("1 its ORDER (0 BYPASS, 1 IDENTITY, 2 SAMPLE, 3 EXTEST)");
        int[] codes = {7, 6 ^ 7, 6, 0};
        int[] due = {0, 0, 2, 3};
        for (int i = 0; i < 4; i++) {
            order(x, 9, 15 | 3 << 4 | codes[i] << 6);
            s.due("by CODE " + codes[i], x.chipOf(0, 1), due[i]);
            s.due("BYPASS", x.chipOf(1, 1) + x.chipOf(2, 1), 0);
        }
        s.due("IDENTITY", Check.board(TEXT, 2).chipOf(0, 1), 1);
        s.says("2 its ORDER REGISTER");
        for (int bits : new int[] {0, 1, 511, 0b101101001}) {
            order(x, 9, bits);
            s.due("chip 2", x.chipOf(2, 2), bits & 15);
            s.due("chip 1", x.chipOf(1, 2), bits >> 4 & 3);
            s.due("chip 0", x.chipOf(0, 2), bits >> 6);
        }
        s.says("3 the bits of the register of its ORDER (as an int)");
        EdgeChain y = Check.board(TEXT, 2);
        y.go(4);
        y.ticks(31, 0, -1);
        s.due("31 bits of 1, one of 0 below", y.chipOf(0, 3), -2);
        y.tick(true, true);
        s.due("all ones", y.chipOf(0, 3), -1);
        order(y, 3, 0);
        data(y, 4, 15);
        s.due("CELLS", y.chipOf(0, 3), 15);
        s.says("4 LATCHES (bits of CELLS)");
        s.due("LATCHES of out CELLS 1, 2", y.chipOf(0, 4), 6);
        EdgeChain ten = Check.board("part 2 extest 0 cells oooooooooo;", 0);
        order(ten, 2, 0);
        data(ten, 10, 1023);
        s.due("ten LATCHES", ten.chipOf(0, 4), 1023);
        data(ten, 10, 512);
        s.due("the highest", ten.chipOf(0, 4), 512);
        s.due("LATCHES of no CELLS", x.chipOf(1, 4), 0);
        s.says("5 what stands at its feet (bits).");
        s.due("ten feet", ten.chipOf(0, 5), 512);
        s.due("feet by EXTEST", y.chipOf(0, 5), 15);
        order(y, 3, 7);
        s.due("feet by BYPASS", y.chipOf(0, 5), 9);
        s.due("feet of no CELLS", x.chipOf(1, 5), 0);
        s.says("BAD.");
        for (int c : new int[] {-1, 3, 4, 6, -4, Integer.MAX_VALUE, Integer.MIN_VALUE}) {
            s.due("chipOf(" + c + ", 0)", x.chipOf(c, 0), Check.BAD);
        }
        for (int what : new int[] {-1, 6, 7, 10, -4, Integer.MAX_VALUE, Integer.MIN_VALUE}) {
            s.due("chipOf(0, " + what + ")", x.chipOf(0, what), Check.BAD);
        }
        s.due("chipOf(0, 0) of no CHIPS", new EdgeChain().chipOf(0, 0), Check.BAD);
    }

    private void promiseCut() {
        s.promise(9);
        s.says("The wire ahead of a CHIP (c as many as there are: behind the last one) is STUCK at v (0, 1; NONE: it is whole)");
        for (int n = 1; n <= 6; n++) {
            EdgeChain x = Check.board("part 2;", java.util.Arrays.copyOf(new int[6], n));
            x.go(4);
            for (int c = 0; c <= n; c++) {
                x.cut(c, 1);
                s.due("wire " + c + " of " + n, x.ticks(20, 0, 0) >> 10, 1023);
                x.cut(c, 0);
                s.due("wire " + c + " of " + n, x.ticks(20, 0, -1) >> 10, 0);
                x.cut(c, Check.NONE);
                s.due("whole", x.ticks(20, 0, -1) >> 10, 1023);
            }
        }
        s.says("what it was.");
        EdgeChain y = Check.board("part 2;", 0, 0);
        for (int c = 0; c <= 2; c++) {
            s.due("cut(" + c + ", 0)", y.cut(c, 0), Check.NONE);
            s.due("cut(" + c + ", 1)", y.cut(c, 1), 0);
            s.due("cut(" + c + ", 1)", y.cut(c, 1), 1);
            s.due("cut(" + c + ", NONE)", y.cut(c, Check.NONE), 1);
            s.due("cut(" + c + ", NONE)", y.cut(c, Check.NONE), Check.NONE);
        }
        EdgeChain none = new EdgeChain();
        s.due("cut(0, 1) of no CHIPS", none.cut(0, 1), Check.NONE);
        s.due("cut(0, NONE) of no CHIPS", none.cut(0, Check.NONE), 1);
        EdgeChain six = Check.board("part 2;", 0, 0, 0, 0, 0, 0);
        s.due("cut(6, 1) of six", six.cut(6, 1), Check.NONE);
        s.due("cut(6, 0) of six", six.cut(6, 0), 1);
        s.says("BAD.");
        for (int c : new int[] {-1, 3, 4, 6, 7, -4, Integer.MAX_VALUE, Integer.MIN_VALUE}) {
            s.due("cut(" + c + ", 0)", y.cut(c, 0), Check.BAD);
        }
        s.due("cut(7, 0) of six", six.cut(7, 0), Check.BAD);
        for (int v : new int[] {2, 3, -1, -2, -3, -5, Integer.MAX_VALUE, Integer.MIN_VALUE}) {
            s.due("cut(0, " + v + ")", y.cut(0, v), Check.BAD);
            s.due("cut(2, " + v + ")", y.cut(2, v), Check.BAD);
        }
        s.due("cut(1, 0) of no CHIPS", none.cut(1, 0), Check.BAD);
        s.due("cut(0, NONE)", y.cut(0, Check.NONE), Check.NONE);
    }
}
