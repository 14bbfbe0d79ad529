/** Promises 33 to 35: sheets, their cells, counts. */
public final class SheetsTest {
    private static final Check CHECK = new Check();

    public static void main(String[] args) {
        sheets();
        cells();
        counts();
        fullBoard();
        CHECK.finish();
    }

    private static void sheets() {
        EdgeChain x = new EdgeChain();
        for (int k = 0; k < 4; k++) {
            for (int lane = 0; lane < 3; lane++) {
                CHECK.due("sheet(" + k + ", " + lane + ", 100)", x.sheet(k, lane, 100), 1);
                CHECK.due("sheet(" + k + ", " + lane + ", 0)", x.sheet(k, lane, 0), 1);
                CHECK.due("sheet(" + k + ", " + lane + ", -1)", x.sheet(k, lane, -1), -14);
                CHECK.due("sheet(" + k + ", " + lane + ", least)", x.sheet(k, lane, Integer.MIN_VALUE), -14);
                CHECK.due("sheet(" + k + ", " + lane + ", 101)", x.sheet(k, lane, 101), Check.BAD);
            }
        }
        CHECK.due("k -1", x.sheet(-1, 0, -1), Check.BAD);
        CHECK.due("k 4", x.sheet(4, 0, -1), Check.BAD);
        CHECK.due("lane -1", x.sheet(0, -1, -1), Check.BAD);
        CHECK.due("lane 3", x.sheet(0, 3, -1), Check.BAD);
        x.sheet(0, 1, 7);
        x.sheet(0, 2, -1);
        x.sheet(0, 2, 101);
        CHECK.due("what is refused changes nothing", x.count(10), 7);
    }

    private static void cells() {
        EdgeChain x = Check.board(Check.THREE, 1);
        CHECK.due("k -1", x.lay(-1, 0, 0), Check.BAD);
        CHECK.due("k 4", x.lay(4, 0, 0), Check.BAD);
        CHECK.due("nothing", x.lay(2, -1, 0), -11);
        x.sheet(2, 0, 3);
        CHECK.due("lay(2, 0)", x.lay(2, 0, 1), 1);
        CHECK.due("lay(2, 2)", x.lay(2, 2, -1), 1);
        CHECK.due("lay(2, 3)", x.lay(2, 3, 1), -12);
        CHECK.due("lay(2, -1)", x.lay(2, -1, 1), -12);
        CHECK.due("lay(2, greatest)", x.lay(2, Integer.MAX_VALUE, 1), -12);
        CHECK.due("lay(2, least)", x.lay(2, Integer.MIN_VALUE, 1), -12);
        CHECK.due("lay(1, 0)", x.lay(1, 0, 1), -11);
        x.scan(true, 2, 0, 1, 2);
        CHECK.due("cells 1, 2", x.chipOf(0, 2), 2);
        x.scan(true, 2, 0, 0, 2);
        CHECK.due("cells 0, 1", x.chipOf(0, 2), 1);
        x.sheet(2, 0, 3);
        x.scan(true, 2, 0, 0, 3);
        CHECK.due("a new row is 0", x.chipOf(0, 2), 0);
        x.sheet(2, 1, 0);
        CHECK.due("no cells", x.lay(2, 0, 1), -12);
    }

    private static void counts() {
        EdgeChain x = Check.board(Check.THREE, 0, 2, 0);
        int[] due = {3, 3, 11, 10, 0, 0, 0, 0, 0, 0, Check.NONE};
        for (int what = 0; what < due.length; what++) {
            CHECK.due("count(" + what + ")", x.count(what), due[what]);
        }
        for (int i = 0; i < 4; i++) {
            x.net();
        }
        x.bridge(0, 1, 0);
        x.bridge(1, 2, 1);
        x.bridge(2, 0, 1);
        x.stick(0, 0);
        x.stick(3, 1);
        x.open(0, 0, true);
        x.open(1, 1, true);
        x.open(2, 3, true);
        x.open(2, 2, true);
        x.sheet(0, 0, 9);
        x.scan(true, 0, 0, 1, 8);
        x.feed(0);
        x.feed(0);
        int[] then = {3, 3, 11, 10, 4, 3, 2, 4, 8, 16, 9};
        for (int what = 0; what < then.length; what++) {
            CHECK.due("count(" + what + ")", x.count(what), then[what]);
        }
        for (int what : new int[] {-1, 11, Integer.MAX_VALUE, Integer.MIN_VALUE}) {
            CHECK.due("count(" + what + ")", x.count(what), Check.BAD);
        }
        x.sheet(0, 1, 0);
        CHECK.due("a sheet of no cells", x.count(10), 0);
    }

    /** As many chips, cells and nets as there may be. */
    private static void fullBoard() {
        EdgeChain x = Check.board("part 8 id 3 sample 0 extest 254 cells oioioioioi;", 0, 0, 0, 0, 0, 0);
        for (int i = 0; i < 8; i++) {
            x.net();
            x.stick(i, i % 2);
            for (int b = 0; b < i; b++) {
                x.bridge(i, b, b % 2);
            }
        }
        for (int c = 0; c < 6; c++) {
            for (int cell = 0; cell < 10; cell++) {
                x.open(c, cell, true);
                x.join(c, c, cell);
            }
        }
        int[] due = {1, 6, 48, 60, 8, 28, 8, 60, 0, 0, Check.NONE};
        for (int what = 0; what < due.length; what++) {
            CHECK.due("full: count(" + what + ")", x.count(what), due[what]);
        }
        CHECK.due("full: cost(1)", x.cost(1), 48 + 6 + 9 * (60 + 5));
        CHECK.due("full: found()", x.found(), 6);
        CHECK.due("full: identity(NONE)", x.identity(Check.NONE), 6);
        CHECK.due("full: broken()", x.broken(), Check.NONE);
        CHECK.due("full: likely(1, 0)", x.likely(1, 0), Check.NONE);
        CHECK.due("full: netOf(7, 0)", x.netOf(7, 0), 0);
        CHECK.due("full: netOf(5, 2)", x.netOf(5, 2), 10);
    }
}
