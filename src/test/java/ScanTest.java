/** Promises 15 and 16: rows shifted from sheets, and what left. */
public final class ScanTest {
    private static final Check CHECK = new Check();

    public static void main(String[] args) {
        refusals();
        ordersAndData();
        lanes();
        fromAnyState();
        logs();
        CHECK.finish();
    }

    private static void refusals() {
        EdgeChain x = new EdgeChain();
        CHECK.due("n 0", x.scan(true, 0, 0, 0, 0), Check.BAD);
        CHECK.due("n 100", x.scan(true, 0, 0, 0, 100), Check.BAD);
        CHECK.due("k -1", x.scan(true, -1, 0, 0, 1), Check.BAD);
        CHECK.due("k 4", x.scan(true, 4, 0, 0, 1), Check.BAD);
        CHECK.due("lane -1", x.scan(true, 0, -1, 0, 1), Check.BAD);
        CHECK.due("lane 3", x.scan(true, 0, 3, 0, 1), Check.BAD);
        CHECK.due("no chips", x.scan(true, 0, 0, 0, 1), Check.STATE);
        Check.tell(x, Check.THREE);
        x.chip(0);
        CHECK.due("nothing", x.scan(true, 0, 0, -1, 1), -11);
        x.sheet(0, 1, 5);
        CHECK.due("another lane", x.scan(true, 0, 0, -1, 1), -13);
        CHECK.due("f -1", x.scan(true, 0, 1, -1, 3), -12);
        CHECK.due("f 3", x.scan(true, 0, 1, 3, 3), -12);
        CHECK.due("f 5", x.scan(true, 0, 1, 5, 1), -12);
        CHECK.due("n 6", x.scan(true, 0, 1, 0, 6), -12);
        CHECK.due("f least", x.scan(true, 0, 1, Integer.MIN_VALUE, 99), -12);
        CHECK.due("f greatest", x.scan(true, 0, 1, Integer.MAX_VALUE, 99), -12);
        x.sheet(0, 1, 0);
        CHECK.due("no cells", x.scan(true, 0, 1, 0, 1), -12);
        CHECK.due("no tick", x.now(1), 0);
        CHECK.due("no log", x.count(8), 0);
    }

    private static void ordersAndData() {
        EdgeChain x = Check.board(Check.THREE, 0, 1);
        CHECK.due("from reset", Check.scan(x, true, "110000"), 5 + 6 + 2);
        CHECK.due("now(0)", x.now(0), 1);
        CHECK.due("order registers left", Check.log(x).equals("101000") ? 1 : 0, 1);
        CHECK.due("chip 0 in extest", x.chipOf(0, 1), 3);
        CHECK.due("from idle", Check.scan(x, false, "00110"), 3 + 5 + 2);
        CHECK.due("bypass and feet left: " + Check.log(x), Check.log(x).equals("01001") ? 1 : 0, 1);
        CHECK.due("latched", x.chipOf(0, 4), 6);
        CHECK.due("one bit", Check.scan(x, false, "1"), 3 + 1 + 2);
    }

    private static void lanes() {
        for (int lane = 0; lane < 3; lane++) {
            EdgeChain x = Check.board("part 8;", 0);
            x.sheet(2, lane, 100);
            x.lay(2, 91, 0x10001);
            x.lay(2, 92, -2);
            x.lay(2, 93, -1);
            x.lay(2, 94, 256);
            x.lay(2, 95, 257);
            CHECK.due("the last cells", x.scan(true, 2, lane, 92, 8), 5 + 8 + 2);
            CHECK.due("the lowest bits", x.chipOf(0, 2), 2 + 8);
            CHECK.due("99 of 100", x.scan(true, 2, lane, 1, 99), 4 + 99 + 2);
            CHECK.due("the last 8 stay", x.chipOf(0, 2), 2 + 8);
            CHECK.due("count(8)", x.count(8), 99);
            CHECK.due("log(97)", x.log(97), 0);
            CHECK.due("another lane", x.scan(true, 2, (lane + 1) % 3, 0, 1), -13);
        }
    }

    private static void fromAnyState() {
        for (int s = 0; s < 16; s++) {
            for (int orders = 0; orders < 2; orders++) {
                EdgeChain x = Check.board(Check.THREE, 1);
                x.go(s);
                int before = x.now(1);
                int there = x.path(s, orders == 1 ? 11 : 4, 0);
                CHECK.due("from " + s, Check.scan(x, orders == 1, "111"), there + 3 + 2);
                CHECK.due("ticks", x.now(1) - before, there + 5);
                CHECK.due("idle", x.now(0), 1);
            }
        }
    }

    private static void logs() {
        EdgeChain x = Check.board(Check.THREE, 1);
        CHECK.due("log(0)", x.log(0), Check.NONE);
        CHECK.due("log(-1)", x.log(-1), Check.BAD);
        Check.scan(x, false, "1101");
        CHECK.due("bypass delays by one", Check.log(x).equals("0110") ? 1 : 0, 1);
        CHECK.due("log(4)", x.log(4), Check.NONE);
        CHECK.due("log of the greatest", x.log(Integer.MAX_VALUE), Check.NONE);
        x.scan(false, 3, 0, 0, 1);
        x.found();
        x.ticks(31, 0, 0);
        CHECK.due("the log stays", x.count(8), 4);
        x.sheet(0, 0, 2);
        x.scan(false, 0, 0, 0, 2);
        CHECK.due("a shorter log", x.count(8), 2);
        CHECK.due("log(2)", x.log(2), Check.NONE);
    }
}
