/** Promises 26 to 32: tests of all nets, answers, guesses, what looks alike, the next row, the cost. */
public final class TrialTest {
    private static final Check CHECK = new Check();

    public static void main(String[] args) {
        refusals();
        rowsAndWords();
        answers();
        likelyGuesses();
        blindTests();
        nextRows();
        costs();
        CHECK.finish();
    }

    private static void refusals() {
        EdgeChain x = new EdgeChain();
        for (int sort : new int[] {-1, 3, Integer.MIN_VALUE}) {
            CHECK.due("rows", x.rows(sort), Check.BAD);
            CHECK.due("likely", x.likely(sort, 0), Check.BAD);
            CHECK.due("blind", x.blind(sort, 0), Check.BAD);
            CHECK.due("next", x.next(sort, 0), Check.BAD);
            CHECK.due("cost", x.cost(sort), Check.BAD);
        }
        for (int sort = 0; sort < 3; sort++) {
            CHECK.due("rows", x.rows(sort), Check.STATE);
            CHECK.due("word", x.word(sort, 0, 0), Check.BAD);
            CHECK.due("answer", x.answer(sort, 0, -4, -4), Check.BAD);
            CHECK.due("likely 0", x.likely(sort, 0), Check.STATE);
            CHECK.due("likely 1", x.likely(sort, 1), Check.STATE);
            CHECK.due("likely 2", x.likely(sort, 2), Check.BAD);
            CHECK.due("likely 10000", x.likely(sort, 10000), Check.BAD);
            CHECK.due("likely 20000", x.likely(sort, 20000), Check.BAD);
            CHECK.due("blind", x.blind(sort, 2), Check.STATE);
            CHECK.due("blind 3", x.blind(sort, 3), Check.BAD);
            CHECK.due("next", x.next(sort, 1), Check.STATE);
            CHECK.due("next 2", x.next(sort, 2), Check.BAD);
            CHECK.due("cost", x.cost(sort), Check.STATE);
        }
        EdgeChain y = Check.nets(3);
        CHECK.due("word(-1, 0, 0)", y.word(-1, 0, 0), Check.BAD);
        CHECK.due("word(3, 0, 0)", y.word(3, 0, 0), Check.BAD);
        CHECK.due("word(0, 3, 0)", y.word(0, 3, 0), Check.BAD);
        CHECK.due("word(0, -1, 0)", y.word(0, -1, 0), Check.BAD);
        CHECK.due("word(0, 0, 2)", y.word(0, 0, 2), Check.BAD);
        CHECK.due("word(0, 0, -1)", y.word(0, 0, -1), Check.BAD);
        for (int what : new int[] {-1, 2, 9999, 10001, 19999, 20001, 30000, Integer.MAX_VALUE, Integer.MIN_VALUE}) {
            CHECK.due("likely(0, " + what + ")", y.likely(0, what), Check.BAD);
        }
        for (int what : new int[] {-1, 3}) {
            CHECK.due("blind(0, " + what + ")", y.blind(0, what), Check.BAD);
            CHECK.due("next(0, " + what + ")", y.next(0, what), Check.BAD);
        }
    }

    private static void rowsAndWords() {
        int[] width = {0, 2, 2, 3, 3, 3, 3, 4, 4};
        for (int n = 1; n <= 8; n++) {
            EdgeChain x = Check.nets(n);
            CHECK.due("rows(0) of " + n, x.rows(0), width[n]);
            CHECK.due("rows(1) of " + n, x.rows(1), 2 * width[n]);
            CHECK.due("rows(2) of " + n, x.rows(2), n);
            int all = (1 << width[n]) - 1;
            for (int i = 0; i < n; i++) {
                CHECK.due("word(0, " + i + ", 0)", x.word(0, i, 0), i + 1);
                CHECK.due("word(1, " + i + ", 0)", x.word(1, i, 0), i + 1 | (all - (i + 1)) << width[n]);
                CHECK.due("word(2, " + i + ", 0)", x.word(2, i, 0), 1 << i);
                CHECK.due("a sound board", x.word(1, i, 1), x.word(1, i, 0));
            }
        }
        EdgeChain x = Check.nets(4);
        x.bridge(0, 1, 0);
        x.bridge(1, 3, 1);
        x.stick(2, 1);
        int[] due = {0, 0, 7, 0};
        for (int i = 0; i < 4; i++) {
            CHECK.due("board answer of " + i, x.word(0, i, 1), due[i]);
            CHECK.due("its word stays", x.word(0, i, 0), i + 1);
        }
        EdgeChain y = Check.board(Check.THREE, 0);
        y.net();
        y.join(0, 0, 1);
        y.open(0, 1, true);
        CHECK.due("open feet do not matter", y.word(0, 0, 1), 1);
    }

    private static void answers() {
        EdgeChain x = Check.nets(3);
        x.stick(0, 0);
        // words 1, 2, 3; faults 6, 7: nets 0 1; 8, 9: 0 2; 10, 11: 1 2
        int[][] due = {
            {0, -4, -4, 1}, {1, -4, -4, 2}, {2, -4, -4, 3},
            {0, 0, -4, 0}, {0, 1, -4, 7}, {1, 2, -4, 0}, {1, 3, -4, 7}, {0, 3, -4, 1}, {2, 5, -4, 7},
            {0, 6, -4, 0}, {1, 6, -4, 0}, {2, 6, -4, 3}, {0, 7, -4, 3}, {1, 7, -4, 3},
            {0, 8, -4, 1}, {2, 8, -4, 1}, {0, 9, -4, 3}, {1, 10, -4, 2}, {2, 10, -4, 2}, {1, 11, -4, 3},
            {0, 0, 1, 0}, {0, 1, 0, 0}, {0, 1, 2, 7}, {1, 1, 2, 0},
            {1, 1, 6, 7}, {1, 6, 1, 7}, {0, 2, 7, 0}, {2, 2, 7, 3}, {2, 4, 7, 0}, {0, 4, 7, 3},
            {0, 6, 7, 0}, {0, 7, 9, 3}, {1, 7, 9, 3}, {1, 8, 11, 0}, {2, 6, 11, 0}, {0, 10, 11, 1}, {2, 10, 11, 2}};
        for (int[] d : due) {
            CHECK.due("answer(0, " + d[0] + ", " + d[1] + ", " + d[2] + ")", x.answer(0, d[0], d[1], d[2]), d[3]);
        }
        CHECK.due("a turned row", x.answer(1, 0, 6, -4), 0 | 4 << 3);
        CHECK.due("walking", x.answer(2, 0, 7, -4), 3);
        int[][] bad = {{0, 0, -4, 1}, {0, 0, 12, -4}, {0, 0, 0, 12}, {0, 0, 3, 3}, {0, 0, -1, -4}, {0, 0, 0, -1}, {0, 3, 0, -4},
            {0, -1, 0, -4}, {3, 0, 0, -4}, {-1, 0, 0, -4}, {0, 0, Integer.MAX_VALUE, Integer.MIN_VALUE}};
        for (int[] b : bad) {
            CHECK.due("answer(" + b[0] + ", " + b[1] + ", " + b[2] + ", " + b[3] + ")", x.answer(b[0], b[1], b[2], b[3]), Check.BAD);
        }
        EdgeChain one = Check.nets(1);
        CHECK.due("one net has two faults", one.answer(0, 0, 0, 1), 0);
        CHECK.due("and no third", one.answer(0, 0, 2, -4), Check.BAD);
        EdgeChain eight = Check.nets(8);
        CHECK.due("the last fault of eight", eight.answer(0, 6, 71, -4), 15);
        CHECK.due("behind it", eight.answer(0, 6, 72, -4), Check.BAD);
    }

    private static void guesses(EdgeChain x, int sort, int faults, int... pairs) {
        CHECK.due("how many faults", x.likely(sort, 0), faults);
        CHECK.due("how many guesses", x.likely(sort, 1), pairs.length / 2);
        for (int i = 0; i < pairs.length / 2; i++) {
            CHECK.due("first of " + i, x.likely(sort, 10000 + i), pairs[2 * i]);
            CHECK.due("second of " + i, x.likely(sort, 20000 + i), pairs[2 * i + 1]);
        }
        CHECK.due("behind the last", x.likely(sort, 10000 + pairs.length / 2), Check.BAD);
        CHECK.due("behind the last", x.likely(sort, 20000 + pairs.length / 2), Check.BAD);
    }

    private static void likelyGuesses() {
        EdgeChain x = Check.nets(3);
        guesses(x, 0, 0, -4, -4);
        x.stick(2, 1);
        guesses(x, 0, 1, 5, -4);
        x.stick(0, 0);
        guesses(x, 0, 2, 0, 5);
        x.stick(1, 1);
        guesses(x, 1, Check.NONE);
        CHECK.due("next of none", x.next(1, 0), Check.NONE);
        for (int i = 0; i < 3; i++) {
            x.stick(i, Check.NONE);
        }
        // 1, 2, 3 by turns: all of them the least, 0
        x.bridge(0, 1, 0);
        x.bridge(1, 2, 0);
        guesses(x, 1, 2, 6, 8, 6, 9, 6, 10, 6, 11, 7, 8, 7, 10, 8, 10, 8, 11, 9, 10);
        x.bridge(1, 2, Check.NONE);
        x.stick(1, 0);
        // walking: nets 0, 1 are 0; a short of them would be 0 too, for no row has 1 in both
        guesses(x, 2, 1, 6, -4);
        EdgeChain one = Check.nets(1);
        one.stick(0, 0);
        guesses(one, 0, 1, 0, -4);
        one.stick(0, 1);
        guesses(one, 2, 0, -4, -4);
    }

    private static void blindTests() {
        EdgeChain one = Check.nets(1);
        int[][] dueOne = {{0, 0, -4}, {0, 0, -4}, {1, 0, 1}};
        for (int sort = 0; sort < 3; sort++) {
            for (int what = 0; what < 3; what++) {
                CHECK.due("one net, blind(" + sort + ", " + what + ")", one.blind(sort, what), dueOne[sort][what]);
            }
        }
        one.stick(0, 0);
        CHECK.due("the board does not matter", one.blind(2, 0), 1);
        for (int n = 1; n <= 8; n++) {
            EdgeChain x = Check.nets(n);
            Model y = new Model();
            y.nets = n;
            for (int sort = 0; sort < 3; sort++) {
                for (int what = 0; what < 3; what++) {
                    CHECK.due(n + " nets, blind(" + sort + ", " + what + ")", x.blind(sort, what), y.blind(sort, what));
                }
            }
        }
    }

    private static void nextRows() {
        EdgeChain x = Check.nets(3);
        CHECK.due("one guess", x.next(0, 0), 0);
        CHECK.due("one heap", x.next(0, 1), 1);
        x.bridge(0, 1, 0);
        x.bridge(1, 2, 0);
        Model y = new Model();
        y.nets = 3;
        y.bridge(0, 1, 0);
        y.bridge(1, 2, 0);
        for (int sort : new int[] {2, 0, 1}) {
            CHECK.due("next(" + sort + ", 1)", x.next(sort, 1), y.next(sort, 1));
            CHECK.due("next(" + sort + ", 0)", x.next(sort, 0), y.next(sort, 0));
        }
        // by each of the nine guesses of sort 1 all three nets have the least level, so no row parts them
        CHECK.due("next(1, 1)", x.next(1, 1), 9);
        CHECK.due("next(1, 0)", x.next(1, 0), 0);
        for (int n = 1; n <= 4; n++) {
            everyBoard(n);
        }
    }

    /** Every board of one or two faults against the model: guesses and the row that parts them. */
    private static void everyBoard(int n) {
        int faults = 2 * n + n * (n - 1);
        for (int f = 0; f < faults; f++) {
            for (int g = f; g < faults; g++) {
                EdgeChain x = Check.nets(n);
                Model y = new Model();
                y.nets = n;
                place(x, y, f);
                place(x, y, g);
                for (int sort = 0; sort < 3; sort++) {
                    String at = " of " + n + " nets, faults " + f + " " + g + ", sort " + sort;
                    int many = y.likely(sort, 1);
                    CHECK.due("likely 0" + at, x.likely(sort, 0), y.likely(sort, 0));
                    CHECK.due("likely 1" + at, x.likely(sort, 1), many);
                    CHECK.due("the last, first" + at, x.likely(sort, 9999 + many), y.likely(sort, 9999 + many));
                    CHECK.due("the last, second" + at, x.likely(sort, 19999 + many), y.likely(sort, 19999 + many));
                    CHECK.due("next 0" + at, x.next(sort, 0), y.next(sort, 0));
                    CHECK.due("next 1" + at, x.next(sort, 1), y.next(sort, 1));
                }
            }
        }
    }

    private static void place(EdgeChain x, Model y, int f) {
        int n = y.nets;
        if (f < 2 * n) {
            x.stick(f / 2, f % 2);
            y.stick(f / 2, f % 2);
            return;
        }
        int q = (f - 2 * n) / 2;
        for (int a = 0; a < n; a++) {
            for (int b = a + 1; b < n; b++) {
                if (q-- == 0) {
                    x.bridge(a, b, f % 2);
                    y.bridge(a, b, f % 2);
                }
            }
        }
    }

    private static void costs() {
        EdgeChain x = Check.board(Check.THREE, 0);
        CHECK.due("no nets", x.cost(0), Check.STATE);
        CHECK.due("no chips", Check.nets(1).cost(0), Check.STATE);
        for (int i = 0; i < 7; i++) {
            x.net();
        }
        CHECK.due("one chip", x.cost(0), 4 + 6 + (4 + 1) * (4 + 5));
        x.chip(1);
        x.chip(2);
        x.chip(0);
        int orders = 4 + 2 + 3 + 4 + 6, data = 4 + 1 + 2 + 4 + 5;
        CHECK.due("cost(0)", x.cost(0), orders + 5 * data);
        CHECK.due("cost(1)", x.cost(1), orders + 9 * data);
        CHECK.due("cost(2)", x.cost(2), orders + 8 * data);
        CHECK.due("no tick", x.now(1), 0);
        x.go(1);
        CHECK.due("orders take it", Check.scan(x, true, "0000000000000"), orders);
        CHECK.due("data take it", Check.scan(x, false, "00000000000"), data);
    }
}
