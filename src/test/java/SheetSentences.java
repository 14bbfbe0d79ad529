/** The sentences on sheets and counts: terms, promises 33 to 35. */
final class SheetSentences {
    private final Sentences s;

    private SheetSentences(Sentences s) {
        this.s = s;
    }

    static void hold(Sentences s) {
        SheetSentences t = new SheetSentences(s);
        t.terms();
        t.promiseSheet();
        t.promiseLay();
        t.promiseCount();
    }

    private void terms() {
        s.terms("SHEETS 0 to 3");
        s.says("SHEETS 0 to 3 are rows of BYTES (lane 0), SHORTS (1), INTS (2) with 0 to 100 CELLS");
        EdgeChain x = Check.board("part 8;", 0);
        for (int k = 0; k < 4; k++) {
            for (int lane = 0; lane < 3; lane++) {
                for (int n : new int[] {0, 1, 8, 99, 100}) {
                    s.due("sheet(" + k + ", " + lane + ", " + n + ")", x.sheet(k, lane, n), 1);
                    s.due("its last CELL", x.lay(k, n - 1, 1), n == 0 ? -12 : 1);
                    s.due("behind it", x.lay(k, n, 1), -12);
                }
                s.due("as lane " + lane, x.scan(true, k, lane, 99, 1) > 0 ? 1 : 0, 1);
                s.due("as another lane", x.scan(true, k, (lane + 1) % 3, 99, 1), -13);
            }
        }
        s.says("or nothing (at first).");
        EdgeChain y = Check.board("part 8;", 0);
        for (int k = 0; k < 4; k++) {
            s.due("lay(" + k + ", 0, 1)", y.lay(k, 0, 1), -11);
            s.due("scan of " + k, y.scan(true, k, 0, 0, 1), -11);
        }
        s.says("A FAULT is what the machine finds: 1 NULL (nothing), 2 INDEX, 3 CAST (another lane), 4 SIZE (below 0).");
        s.due("NULL", y.lay(3, 0, 1), -10 - 1);
        y.sheet(3, 1, 5);
        s.due("INDEX", y.lay(3, 5, 1), -10 - 2);
        s.due("CAST", y.scan(true, 3, 2, 0, 1), -10 - 3);
        s.due("SIZE", y.sheet(3, 1, -1), -10 - 4);
    }

    private void promiseSheet() {
        s.promise(33);
        s.says("A SHEET is a new row of CELLS 0: 1.");
        for (int lane = 0; lane < 3; lane++) {
            EdgeChain x = Check.board("part 8;", 0);
            s.due("sheet()", x.sheet(2, lane, 8), 1);
            x.scan(true, 2, lane, 0, 8);
            s.due("all 0", x.chipOf(0, 2), 0);
            for (int i = 0; i < 8; i++) {
                x.lay(2, i, 1);
            }
            x.scan(true, 2, lane, 0, 8);
            s.due("all 1", x.chipOf(0, 2), 255);
            x.sheet(1, lane, 8);
            x.scan(true, 2, lane, 0, 8);
            s.due("another SHEET does not matter", x.chipOf(0, 2), 255);
            s.due("sheet() again", x.sheet(2, lane, 8), 1);
            x.scan(true, 2, lane, 0, 8);
            s.due("all 0 again", x.chipOf(0, 2), 0);
            x.lay(2, 7, 1);
            x.sheet(2, lane, 3);
            x.sheet(2, lane, 8);
            x.scan(true, 2, lane, 0, 8);
            s.due("shorter, then longer", x.chipOf(0, 2), 0);
        }
        s.says("BAD: also n above 100;");
        EdgeChain y = new EdgeChain();
        y.sheet(0, 0, 7);
        for (int n : new int[] {101, 102, 128, 256, Integer.MAX_VALUE}) {
            s.due("sheet(0, 0, " + n + ")", y.sheet(0, 0, n), Check.BAD);
        }
        for (int k : new int[] {-1, -4, 4, 5, Integer.MAX_VALUE, Integer.MIN_VALUE}) {
            for (int n : new int[] {-1, 0, 101}) {
                s.due("sheet(" + k + ", 0, " + n + ")", y.sheet(k, 0, n), Check.BAD);
                s.due("sheet(0, " + k + ", " + n + ")", y.sheet(0, k, n), Check.BAD);
            }
        }
        s.due("sheet(0, 3, -1)", y.sheet(0, 3, -1), Check.BAD);
        s.due("count(10)", y.count(10), 7);
        s.says("-10 - 4.");
        for (int n : new int[] {-1, -4, -100, -101, Integer.MIN_VALUE}) {
            for (int k = 0; k < 4; k++) {
                s.due("sheet(" + k + ", 2, " + n + ")", y.sheet(k, 2, n), -14);
            }
        }
        s.due("count(10)", y.count(10), 7);
        s.due("lay(1, 0, 0)", y.lay(1, 0, 0), -11);
    }

    private void promiseLay() {
        s.promise(34);
        s.says("CELL i of a SHEET becomes v (its lowest bits): 1.");
        for (int lane = 0; lane < 3; lane++) {
            int[] values = {1, 0, 255, 256, -1, -2, 65535, Integer.MIN_VALUE};
            EdgeChain x = Check.board("part 8;", 0);
            x.sheet(3, lane, 100);
            for (int i = 0; i < 8; i++) {
                s.due("lay(3, " + i + ", " + values[i] + ")", x.lay(3, i, values[i]), 1);
            }
            s.due("lay(3, 99, 1)", x.lay(3, 99, 1), 1);
            x.scan(true, 3, lane, 0, 8);
            s.due("the lowest bit of each", x.chipOf(0, 2), 0b01010101);
            s.due("lay(3, 0, 0)", x.lay(3, 0, 0), 1);
            x.scan(true, 3, lane, 0, 8);
            s.due("CELL 0 alone has changed", x.chipOf(0, 2), 0b01010100);
            x.scan(true, 3, lane, 92, 8);
            s.due("CELL 99", x.chipOf(0, 2), 128);
        }
        s.says("BAD: k;");
        EdgeChain y = new EdgeChain();
        y.sheet(0, 0, 5);
        for (int k : new int[] {-1, -4, 4, 5, Integer.MAX_VALUE, Integer.MIN_VALUE}) {
            s.due("lay(" + k + ", 0, 0)", y.lay(k, 0, 0), Check.BAD);
            s.due("lay(" + k + ", -1, 0)", y.lay(k, -1, 0), Check.BAD);
        }
        s.says("-10 less the FAULT: NULL, INDEX.");
        for (int i : new int[] {-1, 0, 99, 100, Integer.MAX_VALUE, Integer.MIN_VALUE}) {
            s.due("nothing, lay(1, " + i + ", 0)", y.lay(1, i, 0), -11);
        }
        for (int i : new int[] {-1, -4, 5, 6, 99, 100, 101, Integer.MAX_VALUE, Integer.MIN_VALUE}) {
            s.due("lay(0, " + i + ", 0)", y.lay(0, i, 0), -12);
        }
        y.sheet(1, 2, 0);
        s.due("no CELLS", y.lay(1, 0, 0), -12);
        y.sheet(1, 2, 100);
        s.due("lay(1, 100, 0)", y.lay(1, 100, 0), -12);
    }

    private void promiseCount() {
        s.promise(35);
        EdgeChain none = new EdgeChain();
        EdgeChain x = Check.board("part 8 id 3 sample 0 extest 254 cells oioioioioi;part 2;part 3 extest 1 cells oi;", 0, 0, 1);
        int[] first = new int[12];
        for (int what = 0; what < 12; what++) {
            first[what] = x.count(what);
        }
        fill(x);
        String[] words = {"How many: 0 PARTS", "1 CHIPS", "2 LENGTHS summed", "3 CELLS of all CHIPS", "4 NETS", "5 SHORTS", "6 STUCK NETS",
            "7 OPEN FEET", "8 bits of THE LOG", "9 bytes on THE TAPE", "10 CELLS of SHEET 0 (NONE: nothing)."};
        int[] before = {3, 3, 18, 20, 0, 0, 0, 0, 0, 0, Check.NONE};
        int[] behind = {3, 6, 37, 42, 8, 28, 8, 42, 99, 240, 100};
        for (int what = 0; what <= 10; what++) {
            s.says(words[what]);
            s.due("count(" + what + ") of a new object", none.count(what), what == 10 ? Check.NONE : 0);
            s.due("count(" + what + ")", first[what], before[what]);
            s.due("count(" + what + ") of a full board", x.count(what), behind[what]);
        }
        x.sheet(1, 0, 5);
        s.due("SHEET 1 does not matter", x.count(10), 100);
        x.sheet(0, 2, 0);
        s.due("no CELLS", x.count(10), 0);
        s.says("BAD.");
        for (int what : new int[] {-1, -4, 11, 12, Integer.MAX_VALUE, Integer.MIN_VALUE}) {
            s.due("count(" + what + ")", x.count(what), Check.BAD);
            s.due("count(" + what + ") of a new object", none.count(what), Check.BAD);
        }
    }

    /** Six chips, eight nets, all shorts, all stuck, all feet open, a log of 99, a full tape, a sheet of 100. */
    private static void fill(EdgeChain x) {
        x.chip(0);
        x.chip(0);
        x.chip(2);
        x.sheet(0, 0, 100);
        x.scan(true, 0, 0, 0, 99);
        for (int i = 0; i < 8; i++) {
            x.net();
            x.stick(i, i % 2);
            for (int b = 0; b < i; b++) {
                x.bridge(i, b, b % 2);
            }
        }
        for (int c = 0; c < 6; c++) {
            for (int cell = 0; cell < x.part(x.chipOf(c, 0), 4); cell++) {
                x.open(c, cell, true);
            }
        }
        for (int i = 0; i < 30; i++) {
            x.feed(i);
        }
    }
}
