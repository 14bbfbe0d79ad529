/** Promises 10 to 14: ticks, the state, ways between states. */
public final class TicksTest {
    private static final Check CHECK = new Check();
    private static final int[][] GOES = {{1, 0}, {1, 2}, {3, 9}, {4, 5}, {4, 5}, {6, 8}, {6, 7}, {4, 8}, {1, 2}, {10, 0},
        {11, 12}, {11, 12}, {13, 15}, {13, 14}, {11, 15}, {1, 2}};

    public static void main(String[] args) {
        refusals();
        everyMove();
        leaving();
        rowsOfTicks();
        ways();
        goes();
        CHECK.finish();
    }

    private static void refusals() {
        EdgeChain x = new EdgeChain();
        CHECK.due("tick", x.tick(true, true), Check.STATE);
        CHECK.due("ticks", x.ticks(1, 0, 0), Check.STATE);
        CHECK.due("ticks(0)", x.ticks(0, 0, 0), Check.BAD);
        CHECK.due("ticks(32)", x.ticks(32, 0, 0), Check.BAD);
        CHECK.due("go(1)", x.go(1), Check.STATE);
        CHECK.due("go(16)", x.go(16), Check.BAD);
        CHECK.due("go(-1)", x.go(-1), Check.BAD);
        CHECK.due("now(1)", x.now(1), 0);
        for (int what : new int[] {-1, 2}) {
            CHECK.due("now(" + what + ")", x.now(what), Check.BAD);
            CHECK.due("path(0, 0, " + what + ")", x.path(0, 0, what), Check.BAD);
            CHECK.due("path(" + 18 * what / 2 + ")", x.path(18 * what / 2, 0, 0), Check.BAD);
            CHECK.due("path(0, " + 18 * what / 2 + ")", x.path(0, 18 * what / 2, 0), Check.BAD);
        }
    }

    private static void everyMove() {
        for (int s = 0; s < 16; s++) {
            for (int m = 0; m < 2; m++) {
                EdgeChain x = Check.board(Check.THREE, 0);
                x.go(s);
                CHECK.due("now(0)", x.now(0), s);
                int before = x.now(1);
                int left = x.tick(m == 1, true);
                CHECK.due("something leaves in " + s, left == Check.NONE ? 0 : 1, s == 4 || s == 11 ? 1 : 0);
                CHECK.due("from " + s + " by " + m, x.now(0), GOES[s][m]);
                CHECK.due("a tick", x.now(1), before + 1);
            }
        }
    }

    private static void leaving() {
        EdgeChain x = Check.board(Check.THREE, 2, 0);
        x.go(11);
        String left = "";
        for (int i = 0; i < 9; i++) {
            left += x.tick(false, i % 2 == 0);
        }
        // 1 of chip 1 (4 bits), 1 of chip 0 (3 bits), then what came in
        CHECK.due("orders leave: " + left, left.equals("100010010") ? 1 : 0, 1);
        x.go(0);
        x.tick(false, false);
        x.go(4);
        long id = 0;
        for (int i = 0; i < 32; i++) {
            id |= (long) x.tick(false, true) << i;
        }
        CHECK.due("identity of the last one leaves", id, 305419897);
        CHECK.due("bypass caught 0", x.tick(false, true), 0);
        CHECK.due("then what came in", x.tick(false, true), 1);
    }

    private static void rowsOfTicks() {
        EdgeChain x = Check.board("part 2; part 8;", 0);
        // reset, idle, select data, select orders, capture: at shift orders
        CHECK.due("nothing leaves", x.ticks(5, 6, -1), 0);
        CHECK.due("now(0)", x.now(0), 11);
        CHECK.due("31 ticks", x.ticks(31, 0, -1), 0x7ffffffd);
        CHECK.due("now(1)", x.now(1), 36);
        CHECK.due("bits above n are not used", x.ticks(1, 2, 0), 1);
        CHECK.due("now(0)", x.now(0), 11);
        CHECK.due("out of shift", x.ticks(3, 7, 0), 1);
        CHECK.due("now(0)", x.now(0), 2);
        CHECK.due("ticks(-1)", x.ticks(-1, 0, 0), Check.BAD);
        CHECK.due("now(1)", x.now(1), 40);
    }

    private static void ways() {
        EdgeChain x = new EdgeChain();
        for (int a = 0; a < 16; a++) {
            for (int b = 0; b < 16; b++) {
                int n = -1, way = 0;
                for (int length = 0; n < 0; length++) {
                    for (int row = 0; row < 1 << length && n < 0; row++) {
                        int s = a;
                        for (int i = 0; i < length; i++) {
                            s = GOES[s][row >> i & 1];
                        }
                        if (s == b) {
                            n = length;
                            way = row;
                        }
                    }
                }
                CHECK.due("path(" + a + ", " + b + ", 0)", x.path(a, b, 0), n);
                CHECK.due("path(" + a + ", " + b + ", 1)", x.path(a, b, 1), way);
            }
        }
    }

    private static void goes() {
        EdgeChain x = Check.board(Check.THREE, 1);
        CHECK.due("go(0)", x.go(0), 0);
        CHECK.due("go(4)", x.go(4), 4);
        CHECK.due("now(0)", x.now(0), 4);
        CHECK.due("go(4)", x.go(4), 0);
        x.tick(false, false);
        CHECK.due("0 in bypass", x.chipOf(0, 3), 0);
        CHECK.due("go(6)", x.go(6), 2);
        CHECK.due("D is 1 on the way", x.chipOf(0, 3), 1);
        CHECK.due("now(1)", x.now(1), 7);
    }
}
