/** The sentences on nets, feet, shorts, stuck nets and open feet: terms, promises 20 to 25. */
final class NetSentences {
    /** 0 drives by eight feet, 1 reads by eight; by code 1 they are in EXTEST, by code 0 in SAMPLE. */
    private static final String TEXT = "part 2 sample 0 extest 1 cells oooooooo;part 2 sample 0 extest 1 cells iiiiiiii;"
        + "part 2 id 7 extest 1 cells oi;";
    private static final int EXTEST = 5;
    private final Sentences s;

    private NetSentences(Sentences s) {
        this.s = s;
    }

    static void hold(Sentences s) {
        NetSentences t = new NetSentences(s);
        t.netsAndFeet();
        t.drives();
        t.ownLevels();
        t.hangTogether();
        t.levelsOfShorts();
        t.feet();
        t.promiseNet();
        t.promiseJoin();
        t.promiseStick();
        t.promiseBridge();
        t.promiseOpen();
        t.promiseNetOf();
    }

    /** Eight nets, each with a foot of chip 0 that drives it and one of chip 1 that reads it. */
    private static EdgeChain wired() {
        EdgeChain x = Check.board(TEXT, 0, 1);
        for (int i = 0; i < 8; i++) {
            x.net();
            x.join(i, 0, i);
            x.join(i, 1, i);
        }
        ChipSentences.order(x, 4, EXTEST);
        return x;
    }

    private static void drive(EdgeChain x, int levels) {
        ChipSentences.data(x, 16, levels << 8);
    }

    private void netsAndFeet() {
        s.terms("NETS (8) are numbered");
        s.says("NETS (8) are numbered as they come;");
        EdgeChain x = new EdgeChain();
        for (int i = 0; i < 8; i++) {
            s.due("net()", x.net(), i);
        }
        s.due("the ninth", x.net(), Check.FULL);
        s.says("a FOOT (a CELL of a CHIP) is on one NET at most.");
        EdgeChain y = Check.board(TEXT, 0, 0);
        y.net();
        y.net();
        s.due("join(0, 0, 7)", y.join(0, 0, 7), 1);
        s.due("join(1, 0, 7)", y.join(1, 0, 7), Check.STATE);
        s.due("join(0, 0, 7)", y.join(0, 0, 7), Check.STATE);
        s.due("the same CELL of another CHIP", y.join(1, 1, 7), 1);
        s.due("another CELL of the same CHIP", y.join(1, 0, 6), 2);
        s.due("FEET of NET 0", y.netOf(0, 2), 1);
        s.due("FEET of NET 1", y.netOf(1, 2), 2);
    }

    private void drives() {
        s.says("A FOOT of an out CELL DRIVES its LATCH, if its CHIP's ORDER is EXTEST, else 0;");
        EdgeChain x = wired();
        for (int levels : new int[] {0, 1, 128, 0b10110010, 255}) {
            drive(x, levels);
            s.due("LATCHES", x.chipOf(0, 4), levels);
            s.due("what stands at out FEET", x.chipOf(0, 5), levels);
            for (int i = 0; i < 8; i++) {
                s.due("own level of " + i, x.netOf(i, 1), levels >> i & 1);
            }
        }
        for (int codes : new int[] {0b0001, 0b1001, 0b1101}) {
            ChipSentences.order(x, 4, codes);
            s.due("not EXTEST", x.chipOf(0, 1) == 3 ? 1 : 0, 0);
            s.due("LATCHES are kept", x.chipOf(0, 4), 255);
            s.due("out FEET drive 0", x.chipOf(0, 5), 0);
            s.due("own level", x.netOf(3, 1), 0);
        }
        ChipSentences.order(x, 4, EXTEST);
        s.due("EXTEST again", x.netOf(3, 1), 1);
        EdgeChain id = Check.board(TEXT, 2);
        id.net();
        id.join(0, 0, 0);
        s.due("IDENTITY", id.chipOf(0, 1), 1);
        s.due("own level by IDENTITY", id.netOf(0, 1), 0);
        s.says("an OPEN one does not DRIVE.");
        x.open(0, 3, true);
        drive(x, 0);
        s.due("own level of an OPEN FOOT's NET", x.netOf(3, 1), 1);
        s.due("own level of another", x.netOf(2, 1), 0);
        x.open(0, 3, false);
        s.due("own level again", x.netOf(3, 1), 0);
    }

    private void ownLevels() {
        s.says("A NET's own level: the least of what its FEET DRIVE, 1 if none does.");
        for (int levels = 0; levels < 4; levels++) {
            EdgeChain x = Check.board(TEXT, 0, 2);
            x.net();
            x.join(0, 0, 0);
            x.join(0, 1, 0);
            ChipSentences.order(x, 4, EXTEST);
            ChipSentences.data(x, 10, levels >> 1 | (levels & 1) << 2);
            s.due("two FEET with " + levels, x.netOf(0, 1), levels == 3 ? 1 : 0);
            x.open(0, 0, true);
            s.due("the second alone", x.netOf(0, 1), levels >> 1);
            x.open(1, 0, true);
            s.due("none", x.netOf(0, 1), 1);
            x.open(0, 0, false);
            s.due("the first alone", x.netOf(0, 1), levels & 1);
        }
        EdgeChain y = Check.board(TEXT, 1);
        y.net();
        s.due("no FEET", y.netOf(0, 1), 1);
        y.join(0, 0, 0);
        s.due("in FEET alone", y.netOf(0, 1), 1);
        s.due("no CHIPS", Check.nets(1).netOf(0, 1), 1);
    }

    private void hangTogether() {
        s.says("NETS hang together by SHORTS (of kind 0 least, 1 greatest):");
        EdgeChain x = Check.nets(8);
        int[][] shorts = {{6, 7}, {5, 6}, {1, 3}, {3, 5}, {2, 0}, {2, 7}};
        int[][] least = {{0, 1, 2, 3, 4, 5, 6, 6}, {0, 1, 2, 3, 4, 5, 5, 5}, {0, 1, 2, 1, 4, 5, 5, 5}, {0, 1, 2, 1, 4, 1, 1, 1},
            {0, 1, 0, 1, 4, 1, 1, 1}, {0, 0, 0, 0, 4, 0, 0, 0}};
        for (int i = 0; i < 6; i++) {
            x.bridge(shorts[i][0], shorts[i][1], i % 2);
            for (int net = 0; net < 8; net++) {
                s.due("the least with " + net, x.netOf(net, 3), least[i][net]);
            }
        }
        x.bridge(5, 3, Check.NONE);
        s.due("apart again", x.netOf(3, 3), 1);
        s.due("still together", x.netOf(7, 3), 0);
        EdgeChain y = wired();
        y.bridge(0, 7, 0);
        y.bridge(1, 6, 1);
        drive(y, 0b11000000);
        s.due("kind 0, kind 1", y.chipOf(1, 5), 0b01000010);
        s.says("their level: that of the least STUCK one of them, if one is;");
        for (int v = 0; v < 2; v++) {
            EdgeChain z = wired();
            drive(z, v == 0 ? 255 : 0);
            z.bridge(2, 5, v);
            z.bridge(5, 7, v);
            z.stick(7, v);
            s.due("NET 7 is STUCK", z.chipOf(1, 5), v == 0 ? 255 ^ 0b10100100 : 0b10100100);
            z.stick(5, 1 - v);
            s.due("NETS 5 and 7 are STUCK", z.chipOf(1, 5), v == 0 ? 255 : 0);
            z.stick(2, v);
            s.due("NETS 2, 5 and 7 are STUCK", z.chipOf(1, 5), v == 0 ? 255 ^ 0b10100100 : 0b10100100);
            z.stick(0, 1 - v);
            s.due("one that does not hang with them", z.netOf(5, 0), v);
            z.bridge(0, 7, 1 - v);
            s.due("it hangs with them", z.netOf(5, 0), 1 - v);
            z.stick(1, v);
            s.due("STUCK, and no SHORT", z.netOf(1, 0), v);
        }
    }

    private void levelsOfShorts() {
        s.says("else, of all their own levels, the least, if a SHORT of kind 0 is among them, the greatest, if not.");
        int[][] kinds = {{1, 1}, {0, 1}, {1, 0}, {0, 0}};
        for (int[] kind : kinds) {
            EdgeChain x = wired();
            x.bridge(1, 4, kind[0]);
            x.bridge(4, 6, kind[1]);
            x.bridge(0, 7, 1);
            x.bridge(2, 3, 0);
            for (int row = 0; row < 8; row++) {
                int levels = (row & 1) << 1 | (row >> 1 & 1) << 4 | (row >> 2) << 6;
                drive(x, levels);
                boolean up = kind[0] == 1 && kind[1] == 1 ? row != 0 : row == 7;
                s.due("kinds " + kind[0] + " " + kind[1] + ", row " + row, x.chipOf(1, 5), up ? 0b01010010 : 0);
            }
        }
        EdgeChain ring = wired();
        ring.bridge(0, 1, 1);
        ring.bridge(1, 2, 1);
        ring.bridge(0, 2, 0);
        drive(ring, 3);
        s.due("a ring with kind 0 in it", ring.chipOf(1, 5), 0);
        ring.bridge(0, 2, 1);
        s.due("a ring without", ring.chipOf(1, 5), 7);
        EdgeChain all = wired();
        for (int i = 0; i < 7; i++) {
            all.bridge(i, i + 1, 1);
        }
        drive(all, 128);
        s.due("all eight, the greatest", all.chipOf(1, 5), 255);
        all.bridge(0, 7, 0);
        s.due("all eight, the least", all.chipOf(1, 5), 0);
    }

    private void feet() {
        s.says("What stands at a FOOT: in: the level of its NET, 1 if it is OPEN or on no NET;");
        EdgeChain x = wired();
        drive(x, 0b00110101);
        s.due("levels", x.chipOf(1, 5), 0b00110101);
        x.stick(0, 0);
        s.due("NET 0 is STUCK", x.chipOf(1, 5), 0b00110100);
        x.open(1, 1, true);
        x.open(1, 0, true);
        s.due("FEET 0, 1 are OPEN", x.chipOf(1, 5), 0b00110111);
        x.open(1, 0, false);
        s.due("FOOT 1 is OPEN", x.chipOf(1, 5), 0b00110110);
        s.due("the next capture", ChipSentences.data(x, 16, 0b00110101 << 8), 0b00110101 << 8 | 0b00110110);
        s.due("no NET", Check.board(TEXT, 1).chipOf(0, 5), 255);
        s.says("out: what it DRIVES (0, if it does not).");
        s.due("driven", x.chipOf(0, 5), 0b00110101);
        x.stick(2, 0);
        x.stick(1, 1);
        s.due("STUCK NETS do not matter", x.chipOf(0, 5), 0b00110101);
        x.open(0, 5, true);
        x.open(0, 6, true);
        s.due("OPEN ones have 0", x.chipOf(0, 5), 0b00010101);
        EdgeChain alone = Check.board(TEXT, 0);
        ChipSentences.order(alone, 2, 1);
        ChipSentences.data(alone, 8, 0b10000001);
        s.due("on no NET", alone.chipOf(0, 5), 0b10000001);
    }

    private void promiseNet() {
        s.promise(20);
        s.says("A NET: its number.");
        EdgeChain x = new EdgeChain();
        for (int i = 0; i < 8; i++) {
            s.due("net()", x.net(), i);
            s.due("count(4)", x.count(4), i + 1);
            s.due("no FEET", x.netOf(i, 2), 0);
            s.due("not STUCK, level 1", x.netOf(i, 0), 1);
            s.due("alone", x.netOf(i, 3), i);
        }
        s.says("FULL.");
        s.due("net()", x.net(), Check.FULL);
        s.due("net()", x.net(), Check.FULL);
        s.due("count(4)", x.count(4), 8);
        s.due("netOf(8, 0)", x.netOf(8, 0), Check.BAD);
    }

    private void promiseJoin() {
        s.promise(21);
        s.says("A FOOT comes on a NET: how many it has.");
        EdgeChain x = Check.board("part 2 extest 0 cells ioioioioio;part 2;", 0, 0, 0, 0, 0, 0);
        x.net();
        x.net();
        for (int i = 0; i < 60; i++) {
            s.due("join(1, ..), FOOT " + i, x.join(1, i / 10, i % 10), i + 1);
        }
        s.due("FEET of NET 0", x.netOf(0, 2), 0);
        s.says("BAD;");
        EdgeChain y = Check.board("part 2 extest 0 cells ioioioioio;part 2;", 0, 1);
        s.due("no NETS", y.join(0, 0, 0), Check.BAD);
        y.net();
        for (int n : new int[] {-1, -4, 10, 11, Integer.MAX_VALUE, Integer.MIN_VALUE}) {
            s.due("join(" + n + ", 0, 0)", y.join(n, 0, 0), Check.BAD);
            s.due("join(0, " + n + ", 0)", y.join(0, n, 0), Check.BAD);
            s.due("join(0, 0, " + n + ")", y.join(0, 0, n), Check.BAD);
        }
        s.due("join(1, 0, 0)", y.join(1, 0, 0), Check.BAD);
        s.due("join(0, 2, 0)", y.join(0, 2, 0), Check.BAD);
        s.due("a CHIP without CELLS", y.join(0, 1, 0), Check.BAD);
        s.due("FEET", y.netOf(0, 2), 0);
        s.says("STATE: it is on one.");
        y.net();
        y.join(0, 0, 9);
        s.due("join(0, 0, 9)", y.join(0, 0, 9), Check.STATE);
        s.due("join(1, 0, 9)", y.join(1, 0, 9), Check.STATE);
        s.due("join(2, 0, 9)", y.join(2, 0, 9), Check.BAD);
        s.due("FEET", y.netOf(0, 2) * 10 + y.netOf(1, 2), 10);
    }

    private void promiseStick() {
        s.promise(22);
        s.says("A NET is STUCK at v (0, 1; NONE: not)");
        EdgeChain x = wired();
        drive(x, 0b01010101);
        for (int i = 0; i < 8; i++) {
            for (int v = 0; v < 2; v++) {
                x.stick(i, v);
                s.due("NET " + i + " at " + v, x.netOf(i, 0), v);
                s.due("its own level", x.netOf(i, 1), 1 - i % 2);
            }
            x.stick(i, Check.NONE);
            s.due("NET " + i + " is not", x.netOf(i, 0), 1 - i % 2);
        }
        s.says("what it was.");
        int[] row = {Check.NONE, 0, 0, 1, 1, 0, Check.NONE, 1, Check.NONE, Check.NONE};
        for (int i = 1; i < row.length; i++) {
            s.due("stick(7, " + row[i] + ")", x.stick(7, row[i]), row[i - 1]);
        }
        s.says("BAD.");
        for (int n : new int[] {-1, -4, 8, 9, Integer.MAX_VALUE, Integer.MIN_VALUE}) {
            s.due("stick(" + n + ", 0)", x.stick(n, 0), Check.BAD);
        }
        for (int v : new int[] {-1, -2, -3, -5, 2, 3, Integer.MAX_VALUE, Integer.MIN_VALUE}) {
            s.due("stick(0, " + v + ")", x.stick(0, v), Check.BAD);
        }
        s.due("stick(1, 0) of one NET", Check.nets(1).stick(1, 0), Check.BAD);
        s.due("stick(0, 0) of no NETS", new EdgeChain().stick(0, 0), Check.BAD);
        s.due("count(6)", x.count(6), 0);
    }

    private void promiseBridge() {
        s.promise(23);
        s.says("A SHORT between two NETS of kind 0, 1 (NONE: it goes)");
        EdgeChain x = wired();
        for (int a = 0; a < 8; a++) {
            int b = (a + 3) % 8;
            drive(x, 1 << a);
            x.bridge(a, b, 0);
            s.due("kind 0 of " + a + " " + b, x.chipOf(1, 5), 0);
            x.bridge(b, a, 1);
            s.due("kind 1 of " + a + " " + b, x.chipOf(1, 5), 1 << a | 1 << b);
            s.due("one SHORT", x.count(5), 1);
            x.bridge(a, b, Check.NONE);
            s.due("no SHORT", x.chipOf(1, 5), 1 << a);
        }
        s.says("what there was (NONE).");
        int[] row = {Check.NONE, 0, 0, 1, 1, 0, Check.NONE, 1, Check.NONE, Check.NONE};
        for (int i = 1; i < row.length; i++) {
            s.due("bridge by turns, " + row[i], i % 2 == 0 ? x.bridge(7, 0, row[i]) : x.bridge(0, 7, row[i]), row[i - 1]);
        }
        s.says("BAD: also one and the same.");
        for (int n : new int[] {-1, -4, 8, 9, Integer.MAX_VALUE, Integer.MIN_VALUE}) {
            s.due("bridge(" + n + ", 0, 0)", x.bridge(n, 0, 0), Check.BAD);
            s.due("bridge(0, " + n + ", 0)", x.bridge(0, n, 0), Check.BAD);
            s.due("bridge(" + n + ", " + n + ", 0)", x.bridge(n, n, 0), Check.BAD);
        }
        for (int kind : new int[] {-1, -2, -3, -5, 2, 3, Integer.MAX_VALUE, Integer.MIN_VALUE}) {
            s.due("bridge(0, 1, " + kind + ")", x.bridge(0, 1, kind), Check.BAD);
        }
        for (int i = 0; i < 8; i++) {
            for (int kind : new int[] {0, 1, Check.NONE}) {
                s.due("bridge(" + i + ", " + i + ", " + kind + ")", x.bridge(i, i, kind), Check.BAD);
            }
        }
        s.due("bridge(0, 1, 0) of one NET", Check.nets(1).bridge(0, 1, 0), Check.BAD);
        s.due("count(5)", x.count(5), 0);
    }

    private void promiseOpen() {
        s.promise(24);
        s.says("A FOOT is OPEN, or not: whether it was (1, 0).");
        EdgeChain x = Check.board("part 2 extest 0 cells ioioioioio;part 2;", 0, 1, 0);
        for (int c = 0; c < 3; c += 2) {
            for (int cell : new int[] {0, 9}) {
                s.due("open(.., true)", x.open(c, cell, true), 0);
                s.due("open(.., true)", x.open(c, cell, true), 1);
                s.due("open(.., false)", x.open(c, cell, false), 1);
                s.due("open(.., false)", x.open(c, cell, false), 0);
                s.due("open(.., true)", x.open(c, cell, true), 0);
            }
        }
        s.due("count(7)", x.count(7), 4);
        s.says("BAD.");
        for (int n : new int[] {-1, -4, 10, 11, 31, 32, Integer.MAX_VALUE, Integer.MIN_VALUE}) {
            s.due("open(" + n + ", 0, true)", x.open(n, 0, true), Check.BAD);
            s.due("open(0, " + n + ", true)", x.open(0, n, true), Check.BAD);
            s.due("open(0, " + n + ", false)", x.open(0, n, false), Check.BAD);
        }
        s.due("open(3, 0, true)", x.open(3, 0, true), Check.BAD);
        s.due("a CHIP without CELLS", x.open(1, 0, true), Check.BAD);
        s.due("no CHIPS", new EdgeChain().open(0, 0, true), Check.BAD);
        s.due("count(7)", x.count(7), 4);
    }

    private void promiseNetOf() {
        s.promise(25);
        EdgeChain x = wired();
        drive(x, 0b11110000);
        x.stick(0, 1);
        x.bridge(7, 1, 0);
        x.bridge(2, 6, 1);
        s.says("The level of a NET now (what 0)");
        int[] level = {1, 0, 1, 0, 1, 1, 1, 0};
        for (int i = 0; i < 8; i++) {
            s.due("netOf(" + i + ", 0)", x.netOf(i, 0), level[i]);
        }
        s.says("its own level (1)");
        for (int i = 0; i < 8; i++) {
            s.due("netOf(" + i + ", 1)", x.netOf(i, 1), i < 4 ? 0 : 1);
        }
        s.says("FEET on it (2)");
        s.due("netOf(5, 2)", x.netOf(5, 2), 2);
        s.due("of a NET without", Check.nets(8).netOf(7, 2), 0);
        s.says("the least NET that hangs together with it (3).");
        int[] least = {0, 1, 2, 3, 4, 5, 2, 1};
        for (int i = 0; i < 8; i++) {
            s.due("netOf(" + i + ", 3)", x.netOf(i, 3), least[i]);
        }
        s.says("BAD.");
        for (int n : new int[] {-1, -4, 8, 9, Integer.MAX_VALUE, Integer.MIN_VALUE}) {
            s.due("netOf(" + n + ", 0)", x.netOf(n, 0), Check.BAD);
            s.due("netOf(0, " + n + ")", x.netOf(0, n), Check.BAD);
        }
        s.due("netOf(0, 4)", x.netOf(0, 4), Check.BAD);
        s.due("netOf(0, 0) of no NETS", new EdgeChain().netOf(0, 0), Check.BAD);
    }
}
