/** All that calls can show of an object, as a text: what a refused call must not change. */
final class Look {
    private final EdgeChain x;
    private final StringBuilder seen = new StringBuilder();

    private Look(EdgeChain x) {
        this.x = x;
    }

    /** Of a part: its six numbers, then whether each cell is out. */
    static String part(EdgeChain x, int p) {
        StringBuilder b = new StringBuilder();
        for (int what = 0; what < 6; what++) {
            b.append(what == 0 ? "" : " ").append(x.part(p, what));
        }
        for (int i = 0; i < x.part(p, 4); i++) {
            b.append(' ').append(x.part(p, 10 + i));
        }
        return b.toString();
    }

    /** The object is of no more use: sheets are told by scans, the tape by its parts. */
    static String at(EdgeChain x) {
        Look look = new Look(x);
        look.countsAndParts();
        look.chips();
        look.nets();
        if (x.count(1) > 0) {
            look.sheets();
        } else {
            look.tape();
        }
        return look.seen.toString();
    }

    private void add(long v) {
        seen.append(v).append(' ');
    }

    private void section(String name) {
        seen.append("| ").append(name).append(' ');
    }

    private void countsAndParts() {
        section("counts");
        for (int what = 0; what <= 10; what++) {
            add(x.count(what));
        }
        add(x.fault());
        add(x.now(0));
        add(x.now(1));
        section("parts");
        for (int p = 0; p < x.count(0); p++) {
            seen.append(part(x, p)).append(", ");
        }
        section("log");
        for (int i = 0; i < x.count(8); i++) {
            add(x.log(i));
        }
    }

    private void chips() {
        for (int c = 0; c < x.count(1); c++) {
            section("chip " + c);
            for (int what = 0; what < 6; what++) {
                add(x.chipOf(c, what));
            }
            for (int cell = 0; cell < x.part(x.chipOf(c, 0), 4); cell++) {
                int was = x.open(c, cell, true);
                x.open(c, cell, was == 1);
                add(was);
            }
        }
        section("wires");
        for (int c = 0; c <= x.count(1); c++) {
            int was = x.cut(c, Check.NONE);
            x.cut(c, was);
            add(was);
        }
    }

    private void nets() {
        int n = x.count(4);
        for (int i = 0; i < n; i++) {
            section("net " + i);
            for (int what = 0; what < 4; what++) {
                add(x.netOf(i, what));
            }
            int stuck = x.stick(i, Check.NONE);
            x.stick(i, stuck);
            add(stuck);
            for (int b = i + 1; b < n; b++) {
                int kind = x.bridge(i, b, Check.NONE);
                x.bridge(i, b, kind);
                add(kind);
            }
        }
        section("tests");
        for (int sort = 0; sort < 3; sort++) {
            add(x.rows(sort));
            add(x.word(sort, 0, 1));
            add(x.likely(sort, 0));
            add(x.likely(sort, 1));
            add(x.next(sort, 0));
            add(x.cost(sort));
        }
    }

    /** The last cells of each sheet, seen in the order register of chip 0 as they were shifted into it. */
    private void sheets() {
        for (int c = 0; c <= x.count(1); c++) {
            x.cut(c, Check.NONE);
        }
        for (int k = 0; k < 4; k++) {
            section("sheet " + k);
            for (int lane = 0; lane < 3; lane++) {
                int told = -12;
                for (int n = 8; n > 0 && told == -12; n--) {
                    told = x.scan(true, k, lane, 0, n);
                }
                add(told);
                add(x.chipOf(0, 2));
            }
        }
    }

    private void tape() {
        section("tape");
        add(x.parts());
        add(x.fault());
        for (int p = 0; p < x.count(0); p++) {
            seen.append(part(x, p)).append(", ");
        }
    }
}
