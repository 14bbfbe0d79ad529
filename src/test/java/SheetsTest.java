/** Promises 33 to 35: sheets, their cells, counts. */
public final class SheetsTest {
    private static final Check CHECK = new Check();

    public static void main(String[] args) {
        sheets();
        cells();
        counts();
        CHECK.finish();
    }

    private static void sheets() {
        EdgeChain x = new EdgeChain();
        for (int k = 0; k < 4; k++) {
            for (int lane = 0; lane < 3; lane++) {
                CHECK.due("sheet(" + k + ", " + lane + ", 100)", x.sheet(k, lane, 100), 1);
                CHECK.due("sheet(" + k + ", " + lane + ", 0)", x.sheet(k, lane, 0), 1);
                CHECK.due("sheet(" + k + ", " + lane + ", -1)", x.sheet(k, lane, -1), -14);
                CHECK.due("sheet(" + k + ", " + lane + ", least)", x.sheet(k, lane, Integer.MIN_VALUE), -14);
                CHECK.due("sheet(" + k + ", " + lane + ", 101)", x.sheet(k, lane, 101), Check.BAD);
            }
        }
        CHECK.due("k -1", x.sheet(-1, 0, -1), Check.BAD);
        CHECK.due("k 4", x.sheet(4, 0, -1), Check.BAD);
        CHECK.due("lane -1", x.sheet(0, -1, -1), Check.BAD);
        CHECK.due("lane 3", x.sheet(0, 3, -1), Check.BAD);
        x.sheet(0, 1, 7);
        x.sheet(0, 2, -1);
        x.sheet(0, 2, 101);
        CHECK.due("what is refused changes nothing", x.count(10), 7);
    }

    private static void cells() {
        EdgeChain x = Check.board(Check.THREE, 1);
        CHECK.due("k -1", x.lay(-1, 0, 0), Check.BAD);
        CHECK.due("k 4", x.lay(4, 0, 0), Check.BAD);
        CHECK.due("nothing", x.lay(2, -1, 0), -11);
        x.sheet(2, 0, 3);
        CHECK.due("lay(2, 0)", x.lay(2, 0, 1), 1);
        CHECK.due("lay(2, 2)", x.lay(2, 2, -1), 1);
        CHECK.due("lay(2, 3)", x.lay(2, 3, 1), -12);
        CHECK.due("lay(2, -1)", x.lay(2, -1, 1), -12);
        CHECK.due("lay(2, greatest)", x.lay(2, Integer.MAX_VALUE, 1), -12);
        CHECK.due("lay(2, least)", x.lay(2, Integer.MIN_VALUE, 1), -12);
        CHECK.due("lay(1, 0)", x.lay(1, 0, 1), -11);
        x.scan(true, 2, 0, 1, 2);
        CHECK.due("cells 1, 2", x.chipOf(0, 2), 2);
        x.scan(true, 2, 0, 0, 2);
        CHECK.due("cells 0, 1", x.chipOf(0, 2), 1);
        x.sheet(2, 0, 3);
        x.scan(true, 2, 0, 0, 3);
        CHECK.due("a new row is 0", x.chipOf(0, 2), 0);
        x.sheet(2, 1, 0);
        CHECK.due("no cells", x.lay(2, 0, 1), -12);
    }

    private static void counts() {
        EdgeChain x = Check.board(Check.THREE, 0, 2, 0);
        int[] due = {3, 3, 11, 10, 0, 0, 0, 0, 0, 0, Check.NONE};
        for (int what = 0; what < due.length; what++) {
            CHECK.due("count(" + what + ")", x.count(what), due[what]);
        }
        for (int i = 0; i < 4; i++) {
            x.net();
        }
        x.bridge(0, 1, 0);
        x.bridge(1, 2, 1);
        x.bridge(2, 0, 1);
        x.stick(0, 0);
        x.stick(3, 1);
        x.open(0, 0, true);
        x.open(1, 1, true);
        x.open(2, 3, true);
        x.open(2, 2, true);
        x.sheet(0, 0, 9);
        x.scan(true, 0, 0, 1, 8);
        x.feed(0);
        x.feed(0);
        int[] then = {3, 3, 11, 10, 4, 3, 2, 4, 8, 16, 9};
        for (int what = 0; what < then.length; what++) {
            CHECK.due("count(" + what + ")", x.count(what), then[what]);
        }
        for (int what : new int[] {-1, 11, Integer.MAX_VALUE, Integer.MIN_VALUE}) {
            CHECK.due("count(" + what + ")", x.count(what), Check.BAD);
        }
        x.sheet(0, 1, 0);
        CHECK.due("a sheet of no cells", x.count(10), 0);
    }
}
