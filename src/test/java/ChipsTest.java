/** Promises 7 to 9: chips, what they hold, broken wires. */
public final class ChipsTest {
    private static final Check CHECK = new Check();

    public static void main(String[] args) {
        chips();
        orders();
        registersAndFeet();
        cuts();
        CHECK.finish();
    }

    private static void chips() {
        EdgeChain x = Check.board(Check.THREE);
        CHECK.due("chip(3)", x.chip(3), Check.BAD);
        CHECK.due("chip(-1)", x.chip(-1), Check.BAD);
        for (int c = 0; c < 6; c++) {
            CHECK.due("chip " + c, x.chip(c % 3), c);
        }
        CHECK.due("the seventh", x.chip(0), Check.FULL);
        CHECK.due("BAD ahead of FULL", x.chip(9), Check.BAD);
        x.tick(false, false);
        CHECK.due("STATE ahead of FULL", x.chip(0), Check.STATE);
        CHECK.due("BAD ahead of STATE", x.chip(9), Check.BAD);
        CHECK.due("count(1)", x.count(1), 6);
        CHECK.due("chipOf(4, 0)", x.chipOf(4, 0), 1);
        CHECK.due("chipOf(5, 0)", x.chipOf(5, 0), 2);
        EdgeChain y = Check.board(Check.THREE, 0);
        y.go(1);
        CHECK.due("not in reset", y.chip(0), Check.STATE);
        y.go(0);
        CHECK.due("in reset again", y.chip(0), 1);
    }

    private static void orders() {
        EdgeChain x = Check.board(Check.THREE, 0, 1, 2);
        CHECK.due("identity at first", x.chipOf(0, 1), 1);
        CHECK.due("bypass at first", x.chipOf(1, 1), 0);
        CHECK.due("bypass without an id", x.chipOf(2, 1), 0);
        // codes of chip 2, 1, 0 as they are shifted, the lowest bit first
        Check.scan(x, true, "100" + "01" + "0000");
        CHECK.due("chip 0 in extest", x.chipOf(0, 1), 3);
        CHECK.due("chip 1 in bypass", x.chipOf(1, 1), 0);
        CHECK.due("chip 2 in extest", x.chipOf(2, 1), 3);
        CHECK.due("its order register", x.chipOf(1, 2), 2);
        Check.scan(x, true, "011" + "11" + "0100");
        CHECK.due("chip 0 in sample", x.chipOf(0, 1), 2);
        CHECK.due("all ones less 1 without an id", x.chipOf(2, 1), 0);
        CHECK.due("its order register", x.chipOf(0, 2), 2);
        Check.scan(x, true, "111" + "11" + "0111");
        CHECK.due("chip 0 in identity", x.chipOf(0, 1), 1);
        Check.scan(x, true, "111" + "11" + "1010");
        CHECK.due("a code that is not told", x.chipOf(0, 1), 0);
        x.go(0);
        CHECK.due("reset acts in its tick", x.chipOf(0, 1), 0);
        x.tick(true, false);
        CHECK.due("reset has acted", x.chipOf(0, 1), 1);
        // the code of identity told for another order
        EdgeChain y = Check.board("part 2 id 5 extest 2 cells o;", 0);
        CHECK.due("identity by reset all the same", y.chipOf(0, 1), 1);
        Check.scan(y, true, "01");
        CHECK.due("the code tells extest", y.chipOf(0, 1), 3);
    }

    private static void registersAndFeet() {
        EdgeChain x = Check.board(Check.THREE, 0);
        CHECK.due("registers are 0 at first", x.chipOf(0, 3), 0);
        CHECK.due("order register at first", x.chipOf(0, 2), 0);
        CHECK.due("latches at first", x.chipOf(0, 4), 0);
        CHECK.due("feet on no net", x.chipOf(0, 5), 9);
        x.go(4);
        CHECK.due("identity caught", x.chipOf(0, 3), 305419897);
        x.tick(false, true);
        CHECK.due("shifted as an int", x.chipOf(0, 3), (305419897 >>> 1) | Integer.MIN_VALUE);
        Check.scan(x, true, "0000");
        CHECK.due("the register of cells is another", x.chipOf(0, 3), 0);
        Check.scan(x, false, "1110");
        CHECK.due("cells", x.chipOf(0, 3), 7);
        CHECK.due("latches of out cells", x.chipOf(0, 4), 6);
        CHECK.due("feet", x.chipOf(0, 5), 15);
        // sample lays latches too, but drives 0
        Check.scan(x, true, "0100");
        CHECK.due("not extest: drives 0", x.chipOf(0, 5), 9);
        Check.scan(x, false, "0010");
        CHECK.due("caught in sample", Check.log(x).equals("1001") ? 1 : 0, 1);
        CHECK.due("latched in sample", x.chipOf(0, 4), 4);
        Check.scan(x, true, "1111");
        Check.scan(x, false, "1");
        CHECK.due("bypass does not latch", x.chipOf(0, 4), 4);
        CHECK.due("bypass register", x.chipOf(0, 3), 1);
        x.go(0);
        x.tick(true, true);
        CHECK.due("latches outlive reset", x.chipOf(0, 4), 4);
        for (int what : new int[] {-1, 6, Integer.MAX_VALUE}) {
            CHECK.due("chipOf(0, " + what + ")", x.chipOf(0, what), Check.BAD);
        }
        CHECK.due("chipOf(1, 0)", x.chipOf(1, 0), Check.BAD);
        CHECK.due("chipOf(-1, 0)", x.chipOf(-1, 0), Check.BAD);
    }

    private static void cuts() {
        EdgeChain x = Check.board(Check.THREE, 1, 1);
        CHECK.due("cut(0, 1)", x.cut(0, 1), Check.NONE);
        CHECK.due("cut(0, 0)", x.cut(0, 0), 1);
        CHECK.due("cut(0, NONE)", x.cut(0, Check.NONE), 0);
        CHECK.due("cut(0, NONE)", x.cut(0, Check.NONE), Check.NONE);
        CHECK.due("cut(2, 1)", x.cut(2, 1), Check.NONE);
        CHECK.due("cut(3, 1)", x.cut(3, 1), Check.BAD);
        CHECK.due("cut(-1, 1)", x.cut(-1, 1), Check.BAD);
        for (int v : new int[] {2, -1, -3, -5}) {
            CHECK.due("cut(2, " + v + ")", x.cut(2, v), Check.BAD);
        }
        x.go(4);
        CHECK.due("behind the last one", x.tick(false, false), 1);
        x.cut(2, Check.NONE);
        x.cut(1, 1);
        CHECK.due("a bypass empties", x.ticks(4, 0, 0), 14);
        x.cut(1, Check.NONE);
        x.cut(0, 0);
        CHECK.due("ahead of the first one", x.ticks(5, 0, 31), 1);
        // the wire behind the last one is the wire ahead of the next one
        EdgeChain y = Check.board(Check.THREE, 1);
        y.cut(1, 1);
        y.chip(1);
        CHECK.due("cut(2, NONE)", y.cut(2, Check.NONE), Check.NONE);
        CHECK.due("cut(1, NONE)", y.cut(1, Check.NONE), 1);
    }
}
