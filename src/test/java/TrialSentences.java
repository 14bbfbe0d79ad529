import java.util.ArrayList;
import java.util.Arrays;
import java.util.HashMap;
import java.util.List;
import java.util.Map;

/** The sentences on tests, faults of nets, guesses, the next row and the cost: terms, promises 26 to 32. */
final class TrialSentences {
    private static final int NONE = Check.NONE;
    private static final int[] WIDTH = {0, 2, 2, 3, 3, 3, 3, 4, 4};
    private static final int[] OUTSIDE = {-1, -2, -3, -5, 3, 4, Integer.MAX_VALUE, Integer.MIN_VALUE};
    private final Sentences s;

    private TrialSentences(Sentences s) {
        this.s = s;
    }

    static void hold(Sentences s) {
        TrialSentences t = new TrialSentences(s);
        t.tests();
        t.faultsOfNets();
        t.answersByFaults();
        t.boardAnswers();
        t.likelyGuesses();
        t.promiseRows();
        t.promiseWord();
        t.promiseAnswer();
        t.promiseLikely();
        t.promiseBlind();
        t.promiseNext();
        t.promiseCost();
    }

    // ---- what is due, worked out here

    private static int rowsOf(int n, int sort) {
        return sort == 2 ? n : WIDTH[n] * (sort + 1);
    }

    private static int wordOf(int n, int sort, int i) {
        int ones = (1 << WIDTH[n]) - 1;
        return sort == 2 ? 1 << i : sort == 0 ? i + 1 : i + 1 | (ones - (i + 1)) << WIDTH[n];
    }

    /** The fault by its number: its two nets (one and the same if it is stuck), and its level or kind. */
    private static int[] fault(int n, int f) {
        if (f < 2 * n) {
            return new int[] {f / 2, f / 2, f % 2};
        }
        int q = (f - 2 * n) / 2;
        int a = 0;
        while (q >= n - 1 - a) {
            q -= n - 1 - a;
            a++;
        }
        return new int[] {a, a + 1 + q, f % 2};
    }

    private static int faultsOf(int n) {
        return 2 * n + n * (n - 1);
    }

    /** Words of rows (all are the bits of these rows) by up to two faults. */
    private static int[] by(int n, int[] words, int all, int... faults) {
        int[] heap = new int[n];
        for (int i = 0; i < n; i++) {
            heap[i] = 1 << i;
        }
        for (int round = 0; round < 2; round++) {
            for (int f : faults) {
                if (f != NONE) {
                    int[] nets = fault(n, f);
                    int both = heap[nets[0]] | heap[nets[1]];
                    for (int i = 0; i < n; i++) {
                        heap[i] = (both >> i & 1) == 1 ? both : heap[i];
                    }
                }
            }
        }
        int[] result = new int[n];
        for (int i = 0; i < n; i++) {
            result[i] = level(n, heap[i], words, all, faults);
        }
        return result;
    }

    private static int level(int n, int heap, int[] words, int all, int... faults) {
        int low = all, high = 0, stuck = 2;
        boolean least = false;
        for (int i = 0; i < n; i++) {
            if ((heap >> i & 1) == 1) {
                low &= words[i];
                high |= words[i];
            }
        }
        for (int f : faults) {
            if (f != NONE && (heap >> fault(n, f)[0] & 1) == 1) {
                stuck = f < 2 * n ? Math.min(stuck, f % 2) : stuck;
                least |= f >= 2 * n && f % 2 == 0;
            }
        }
        return stuck < 2 ? stuck * all : least ? low : high;
    }

    private static int[] words(int n, int sort) {
        int[] words = new int[n];
        for (int i = 0; i < n; i++) {
            words[i] = wordOf(n, sort, i);
        }
        return words;
    }

    private static int[] answersBy(int n, int sort, int... faults) {
        return by(n, words(n, sort), (1 << rowsOf(n, sort)) - 1, faults);
    }

    private static List<int[]> likelyOf(int n, int sort, int[] board) {
        List<int[]> list = new ArrayList<>();
        if (Arrays.equals(board, words(n, sort))) {
            list.add(new int[] {NONE, NONE});
            return list;
        }
        for (int f = 0; f < faultsOf(n); f++) {
            if (Arrays.equals(board, answersBy(n, sort, f))) {
                list.add(new int[] {f, NONE});
            }
        }
        boolean single = !list.isEmpty();
        for (int f = 0; f < faultsOf(n) && !single; f++) {
            for (int g = f + 1; g < faultsOf(n); g++) {
                if (Arrays.equals(board, answersBy(n, sort, f, g))) {
                    list.add(new int[] {f, g});
                }
            }
        }
        return list;
    }

    /** The row that parts the guesses best, and its greatest heap. */
    private static int[] nextOf(int n, List<int[]> guesses) {
        int[] best = {0, Integer.MAX_VALUE};
        for (int row = 0; row < 1 << n; row++) {
            int[] own = new int[n];
            for (int i = 0; i < n; i++) {
                own[i] = row >> i & 1;
            }
            Map<String, Integer> heaps = new HashMap<>();
            int greatest = 0;
            for (int[] guess : guesses) {
                greatest = Math.max(greatest, heaps.merge(Arrays.toString(by(n, own, 1, guess)), 1, Integer::sum));
            }
            if (greatest < best[1]) {
                best = new int[] {row, greatest};
            }
        }
        return best;
    }

    private static EdgeChain boardWith(int n, int... faults) {
        EdgeChain x = Check.nets(n);
        for (int f : faults) {
            int[] nets = fault(n, f);
            if (f < 2 * n) {
                x.stick(nets[0], nets[2]);
            } else {
                x.bridge(nets[0], nets[1], nets[2]);
            }
        }
        return x;
    }

    /** Two faults that a board can have at once: not both of one net's stuck, not both kinds of one short. */
    private static boolean canBe(int f, int g) {
        return f / 2 != g / 2;
    }

    // ---- the sentences

    private void tests() {
        s.terms("TESTS of all NETS");
        s.says("TESTS of all NETS (n of them, 1 to 8): sort 0 COUNTING: rows 0 to w - 1, w the least with 2 to the w not below n + 2;");
        for (int n = 1; n <= 8; n++) {
            s.due("rows(0) of " + n, Check.nets(n).rows(0), WIDTH[n]);
        }
        s.says("NET i has in row r bit r of i + 1.");
        for (int n = 1; n <= 8; n++) {
            for (int i = 0; i < n; i++) {
                s.due("word(0, " + i + ", 0) of " + n, Check.nets(n).word(0, i, 0), i + 1);
            }
        }
        s.says("1 TWICE: these, then the same rows turned (1 for 0).");
        int[] first = {0, 0b1001, 0b1001, 0b110001, 0b110001, 0b110001, 0b110001, 0b11100001, 0b11100001};
        int[] last = {0, 0b1001, 0b0110, 0b100011, 0b011100, 0b010101, 0b001110, 0b10000111, 0b01111000};
        for (int n = 1; n <= 8; n++) {
            s.due("rows(1) of " + n, Check.nets(n).rows(1), 2 * WIDTH[n]);
            s.due("word(1, 0, 0) of " + n, Check.nets(n).word(1, 0, 0), first[n]);
            s.due("the last word of " + n, Check.nets(n).word(1, n - 1, 0), last[n]);
        }
        s.says("2 WALKING: n rows, NET i has 1 in row i alone.");
        for (int n = 1; n <= 8; n++) {
            s.due("rows(2) of " + n, Check.nets(n).rows(2), n);
            for (int i = 0; i < n; i++) {
                s.due("word(2, " + i + ", 0) of " + n, Check.nets(n).word(2, i, 0), 1 << i);
            }
        }
        s.says("The WORD of a NET: bit r what it has in row r.");
        EdgeChain x = Check.nets(6);
        s.due("NET 5 by COUNTING: 0, 1, 1", x.word(0, 5, 0), 0b110);
        s.due("NET 5 by TWICE: 0, 1, 1, 1, 0, 0", x.word(1, 5, 0), 0b001110);
        s.due("NET 5 by WALKING: 0, 0, 0, 0, 0, 1", x.word(2, 5, 0), 0b100000);
    }

    private void faultsOfNets() {
        s.terms("FAULTS of NETS by numbers");
        s.says("FAULTS of NETS by numbers: 2 i and v: NET i STUCK at v;");
        for (int n = 1; n <= 8; n++) {
            EdgeChain x = Check.nets(n);
            int ones = (1 << WIDTH[n]) - 1;
            for (int i = 0; i < n; i++) {
                s.due("answer(0, " + i + ", 2 i)", x.answer(0, i, 2 * i, NONE), 0);
                s.due("answer(0, " + i + ", 2 i and 1)", x.answer(0, i, 2 * i + 1, NONE), ones);
                s.due("of another NET", n == 1 ? 1 : x.answer(0, (i + 1) % n, 2 * i, NONE), n == 1 ? 1 : (i + 1) % n + 1);
            }
        }
        s.says("2 n and 2 q and k: a SHORT of kind k between two NETS, q the place of the pair (0 1, 0 2, .. 1 2, ..).");
        for (int n = 2; n <= 8; n++) {
            int q = 0;
            for (int a = 0; a < n; a++) {
                for (int b = a + 1; b < n; b++) {
                    EdgeChain x = Check.nets(n);
                    int f = 2 * n + 2 * q;
                    s.due("kind 0 of " + a + " " + b + ", NET " + a, x.answer(0, a, f, NONE), a + 1 & b + 1);
                    s.due("kind 0 of " + a + " " + b + ", NET " + b, x.answer(0, b, f, NONE), a + 1 & b + 1);
                    s.due("kind 1 of " + a + " " + b + ", NET " + a, x.answer(0, a, f + 1, NONE), a + 1 | b + 1);
                    s.due("kind 1 of " + a + " " + b + ", NET " + b, x.answer(0, b, f + 1, NONE), a + 1 | b + 1);
                    q++;
                }
            }
            s.due("the last FAULT of " + n, Check.nets(n).answer(0, 0, faultsOf(n) - 1, NONE) == Check.BAD ? 1 : 0, 0);
            s.due("behind it", Check.nets(n).answer(0, 0, faultsOf(n), NONE), Check.BAD);
        }
    }

    private void answersAre(int n, int sort, int f, int g) {
        EdgeChain x = Check.nets(n);
        int[] due = answersBy(n, sort, f, g);
        for (int i = 0; i < n; i++) {
            s.due(n + " NETS, answer(" + sort + ", " + i + ", " + f + ", " + g + ")", x.answer(sort, i, f, g), due[i]);
        }
    }

    private void answersByFaults() {
        s.says("ANSWER of a NET by some FAULTS: bit r its level in row r, all own levels being as the TEST has them.");
        for (int n = 1; n <= 4; n++) {
            for (int sort = 0; sort < 3; sort++) {
                for (int f = 0; f < faultsOf(n); f++) {
                    answersAre(n, sort, f, NONE);
                    for (int g = 0; g < faultsOf(n); g++) {
                        if (f != g) {
                            answersAre(n, sort, f, g);
                        }
                    }
                }
            }
        }
        EdgeChain driven = Check.board("part 2 extest 0 cells o;", 0);
        driven.net();
        driven.join(0, 0, 0);
        s.due("what FEET DRIVE does not matter", driven.answer(0, 0, NONE, NONE), 1);
        s.says("(A NET that is STUCK by two FAULTS is so at 0.)");
        for (int n = 1; n <= 8; n++) {
            for (int i = 0; i < n; i++) {
                s.due("answer(1, " + i + ", 2 i, 2 i and 1)", Check.nets(n).answer(1, i, 2 * i, 2 * i + 1), 0);
                s.due("answer(1, " + i + ", 2 i and 1, 2 i)", Check.nets(n).answer(1, i, 2 * i + 1, 2 * i), 0);
            }
        }
        s.says("A GUESS: no FAULT, one, or two of unlike numbers (the less first).");
        s.due("no FAULT", Check.nets(2).likely(0, 10000), NONE);
        EdgeChain one = boardWith(2, 3);
        s.due("one", one.likely(0, 10000), 3);
        s.due("and no second", one.likely(0, 20000), NONE);
        EdgeChain two = boardWith(2, 3, 0);
        s.due("two, the less", two.likely(0, 10000), 0);
        s.due("two, the greater", two.likely(0, 20000), 3);
        EdgeChain three = boardWith(3, 0, 3, 4);
        s.due("never three", three.likely(1, 0), NONE);
    }

    private void boardAnswers() {
        s.terms("THE BOARD's ANSWERS");
        s.says("THE BOARD's ANSWERS: by STUCK NETS and SHORTS as they are on it");
        for (int n = 1; n <= 4; n++) {
            for (int f = 0; f < faultsOf(n); f++) {
                for (int g = 0; g < faultsOf(n); g++) {
                    for (int sort = 0; sort < 3 && canBe(f, g); sort++) {
                        EdgeChain x = boardWith(n, f, g);
                        int[] due = answersBy(n, sort, f, g);
                        for (int i = 0; i < n; i++) {
                            s.due("faults " + f + " " + g + ", word(" + sort + ", " + i + ", 1)", x.word(sort, i, 1), due[i]);
                        }
                    }
                }
            }
        }
        EdgeChain y = Check.nets(8);
        for (int i = 0; i < 7; i++) {
            y.bridge(i, i + 1, 1);
        }
        s.due("all SHORTS of kind 1", y.word(0, 0, 1), 15);
        y.bridge(0, 7, 0);
        s.due("and one of kind 0", y.word(0, 0, 1), 0);
        y.stick(7, 1);
        s.due("and one STUCK", y.word(0, 0, 1), 15);
        y.stick(3, 0);
        s.due("and a lesser one STUCK", y.word(0, 0, 1), 0);
        s.says("(OPEN FEET do not matter).");
        EdgeChain z = Check.board("part 2 extest 0 cells oi;", 0);
        z.net();
        z.join(0, 0, 0);
        z.join(0, 0, 1);
        s.due("no OPEN FEET", z.word(1, 0, 1), 0b1001);
        z.open(0, 0, true);
        z.open(0, 1, true);
        s.due("OPEN FEET", z.word(1, 0, 1), 0b1001);
        s.due("likely(1, 0)", z.likely(1, 0), 0);
    }

    private void listIs(EdgeChain x, int sort, List<int[]> due) {
        s.due("likely(" + sort + ", 1)", x.likely(sort, 1), due.size());
        for (int i = 0; i < due.size(); i++) {
            s.due("likely(" + sort + ", " + (10000 + i) + ")", x.likely(sort, 10000 + i), due.get(i)[0]);
            s.due("likely(" + sort + ", " + (20000 + i) + ")", x.likely(sort, 20000 + i), due.get(i)[1]);
        }
    }

    private static List<int[]> guesses(int... pairs) {
        List<int[]> list = new ArrayList<>();
        for (int i = 0; i < pairs.length; i += 2) {
            list.add(new int[] {pairs[i], pairs[i + 1]});
        }
        return list;
    }

    private void likelyGuesses() {
        s.terms("LIKELY: the GUESSES");
        s.says("LIKELY: the GUESSES with the fewest FAULTS by which all ANSWERS are those of THE BOARD;");
        for (int sort = 0; sort < 3; sort++) {
            for (int n = 1; n <= 8; n++) {
                listIs(Check.nets(n), sort, guesses(NONE, NONE));
                for (int f = 0; f < faultsOf(n); f++) {
                    boolean unseen = n == 1 && sort == 2 && f == 1;
                    listIs(boardWith(n, f), sort, guesses(unseen ? NONE : f, NONE));
                }
            }
        }
        EdgeChain fewer = Check.nets(3);
        fewer.bridge(0, 1, 0);
        fewer.stick(0, 0);
        listIs(fewer, 0, guesses(6, NONE));
        listIs(fewer, 1, guesses(0, 2, 0, 6, 0, 7, 2, 6, 2, 7));
        s.says("in order of their first, then their second FAULT.");
        EdgeChain x = Check.nets(3);
        x.bridge(0, 1, 0);
        x.bridge(1, 2, 0);
        listIs(x, 0, guesses(4, 6, 6, 8, 6, 9, 6, 10, 6, 11, 7, 8, 7, 10, 8, 10, 8, 11, 9, 10));
        listIs(x, 1, guesses(6, 8, 6, 9, 6, 10, 6, 11, 7, 8, 7, 10, 8, 10, 8, 11, 9, 10));
        for (int n = 1; n <= 3; n++) {
            for (int f = 0; f < faultsOf(n); f++) {
                for (int g = f + 1; g < faultsOf(n); g++) {
                    for (int sort = 0; sort < 3 && canBe(f, g); sort++) {
                        listIs(boardWith(n, f, g), sort, likelyOf(n, sort, answersBy(n, sort, f, g)));
                    }
                }
            }
        }
    }

    private void promiseRows() {
        s.promise(26);
        s.says("How many rows a TEST has.");
        for (int n = 1; n <= 8; n++) {
            for (int sort = 0; sort < 3; sort++) {
                s.due("rows(" + sort + ") of " + n, Check.nets(n).rows(sort), rowsOf(n, sort));
            }
        }
        s.says("BAD;");
        for (int sort : OUTSIDE) {
            s.due("rows(" + sort + ")", Check.nets(1).rows(sort), Check.BAD);
            s.due("rows(" + sort + ") of no NETS", new EdgeChain().rows(sort), Check.BAD);
        }
        s.says("STATE: there are no NETS.");
        for (int sort = 0; sort < 3; sort++) {
            s.due("rows(" + sort + ")", new EdgeChain().rows(sort), Check.STATE);
        }
    }

    private void promiseWord() {
        s.promise(27);
        EdgeChain x = Check.nets(8);
        x.stick(7, 1);
        x.bridge(0, 1, 1);
        s.says("The WORD of a NET (what 0)");
        for (int i = 0; i < 8; i++) {
            for (int sort = 0; sort < 3; sort++) {
                s.due("word(" + sort + ", " + i + ", 0)", x.word(sort, i, 0), wordOf(8, sort, i));
            }
        }
        s.says("THE BOARD's ANSWER (1).");
        int[][] due = {{3, 3, 3, 4, 5, 6, 7, 15}, {0xf3, 0xf3, 0xc3, 0xb4, 0xa5, 0x96, 0x87, 0xff}, {3, 3, 4, 8, 16, 32, 64, 255}};
        for (int sort = 0; sort < 3; sort++) {
            for (int i = 0; i < 8; i++) {
                s.due("word(" + sort + ", " + i + ", 1)", x.word(sort, i, 1), due[sort][i]);
            }
        }
        s.says("BAD.");
        for (int n : OUTSIDE) {
            s.due("word(" + n + ", 0, 0)", x.word(n, 0, 0), Check.BAD);
            s.due("word(0, 0, " + n + ")", x.word(0, 0, n), Check.BAD);
            s.due("word(0, " + n + ", 0) of three", Check.nets(3).word(0, n, 0), Check.BAD);
        }
        s.due("word(0, 0, 2)", x.word(0, 0, 2), Check.BAD);
        s.due("word(0, 8, 0)", x.word(0, 8, 0), Check.BAD);
        s.due("word(0, 0, 0) of no NETS", new EdgeChain().word(0, 0, 0), Check.BAD);
        s.due("word(0, 0, 1) of no NETS", new EdgeChain().word(0, 0, 1), Check.BAD);
    }

    private void promiseAnswer() {
        s.promise(28);
        s.says("The ANSWER of a NET by FAULTS f, g (g NONE: f alone; both NONE: none).");
        EdgeChain x = Check.nets(3);
        s.due("by f, g", x.answer(0, 0, 1, 2), 7);
        s.due("by g, f", x.answer(0, 1, 2, 1), 0);
        s.due("f alone", x.answer(0, 1, 6, NONE), 0);
        s.due("f alone, another NET", x.answer(0, 2, 6, NONE), 3);
        for (int i = 0; i < 3; i++) {
            s.due("none", x.answer(0, i, NONE, NONE), i + 1);
        }
        x.stick(0, 1);
        x.bridge(1, 2, 0);
        s.due("THE BOARD does not matter", x.answer(0, 0, NONE, NONE), 1);
        s.due("THE BOARD does not matter", x.answer(0, 2, 0, NONE), 3);
        s.says("BAD: also no such FAULTS, one and the same, f alone NONE.");
        for (int n : OUTSIDE) {
            s.due("answer(" + n + ", 0, 0, 1)", x.answer(n, 0, 0, 1), Check.BAD);
            s.due("answer(0, " + n + ", 0, 1)", x.answer(0, n, 0, 1), Check.BAD);
        }
        for (int f : new int[] {-1, -2, -3, -5, 12, 13, 72, Integer.MAX_VALUE, Integer.MIN_VALUE}) {
            s.due("answer(0, 0, " + f + ", NONE)", x.answer(0, 0, f, NONE), Check.BAD);
            s.due("answer(0, 0, 0, " + f + ")", x.answer(0, 0, 0, f), Check.BAD);
            s.due("answer(0, 0, " + f + ", 0)", x.answer(0, 0, f, 0), Check.BAD);
        }
        for (int f = 0; f < 12; f++) {
            s.due("one and the same, " + f, x.answer(0, 0, f, f), Check.BAD);
            s.due("f alone NONE, " + f, x.answer(0, 0, NONE, f), Check.BAD);
        }
        for (int n = 1; n <= 8; n++) {
            EdgeChain y = Check.nets(n);
            s.due("the last FAULT of " + n, y.answer(2, 0, faultsOf(n) - 1, NONE) >= 0 ? 1 : 0, 1);
            s.due("behind it", y.answer(2, 0, faultsOf(n), NONE), Check.BAD);
            s.due("behind it, as g", y.answer(2, 0, 0, faultsOf(n)), Check.BAD);
        }
        s.due("no NETS", new EdgeChain().answer(0, 0, NONE, NONE), Check.BAD);
    }

    private void promiseLikely() {
        s.promise(29);
        s.says("LIKELY GUESSES: what 0 how many FAULTS (NONE: no GUESS explains it)");
        s.due("none", Check.nets(8).likely(0, 0), 0);
        s.due("one", boardWith(8, 71).likely(0, 0), 1);
        s.due("two", boardWith(8, 0, 15).likely(0, 0), 2);
        s.due("three", boardWith(8, 1, 2, 5).likely(0, 0), NONE);
        s.due("three, but one explains them", boardWith(2, 0, 2, 4).likely(0, 0), 1);
        EdgeChain mended = boardWith(8, 1, 2);
        s.due("two", mended.likely(0, 0), 2);
        mended.stick(1, NONE);
        s.due("one is mended", mended.likely(0, 0), 1);
        mended.stick(0, NONE);
        s.due("both are mended", mended.likely(0, 0), 0);
        s.says("1 how many GUESSES");
        s.due("none", Check.nets(8).likely(0, 1), 1);
        s.due("one", boardWith(8, 71).likely(0, 1), 1);
        s.due("ten", boardWith(3, 6, 10).likely(0, 1), 10);
        s.due("no GUESS explains it", boardWith(8, 1, 2, 5).likely(0, 1), 0);
        s.says("10000 and i: the first FAULT of GUESS i (NONE)");
        s.due("none", Check.nets(8).likely(2, 10000), NONE);
        s.due("one", boardWith(8, 71).likely(2, 10000), 71);
        s.due("two", boardWith(8, 15, 0).likely(2, 10000), 0);
        s.due("the last of ten", boardWith(3, 6, 10).likely(0, 10009), 9);
        s.says("20000 and i: the second (NONE).");
        s.due("none", Check.nets(8).likely(2, 20000), NONE);
        s.due("one", boardWith(8, 71).likely(2, 20000), NONE);
        s.due("two", boardWith(8, 15, 0).likely(2, 20000), 15);
        s.due("the last of ten", boardWith(3, 6, 10).likely(0, 20009), 10);
        s.says("BAD: also a GUESS i that there is not (with no NETS, too);");
        for (int n : OUTSIDE) {
            s.due("likely(" + n + ", 0)", Check.nets(1).likely(n, 0), Check.BAD);
            s.due("likely(" + n + ", 10000)", Check.nets(1).likely(n, 10000), Check.BAD);
            s.due("likely(0, " + n + ")", Check.nets(1).likely(0, n), Check.BAD);
        }
        for (int what : new int[] {2, 9999, 10001, 12556, 19999, 20001, 22556, 29999, 30000}) {
            s.due("likely(0, " + what + ")", Check.nets(8).likely(0, what), Check.BAD);
            s.due("likely(0, " + what + ") of no NETS", new EdgeChain().likely(0, what), Check.BAD);
        }
        s.due("GUESS 10 of ten, first", boardWith(3, 6, 10).likely(0, 10010), Check.BAD);
        s.due("GUESS 10 of ten, second", boardWith(3, 6, 10).likely(0, 20010), Check.BAD);
        s.due("GUESS 0 of none, first", boardWith(8, 1, 2, 5).likely(0, 10000), Check.BAD);
        s.due("GUESS 0 of none, second", boardWith(8, 1, 2, 5).likely(0, 20000), Check.BAD);
        s.due("GUESS 0 of no NETS, first", new EdgeChain().likely(0, 10000), Check.BAD);
        s.due("GUESS 0 of no NETS, second", new EdgeChain().likely(2, 20000), Check.BAD);
        s.says("STATE: no NETS (0, 1).");
        for (int sort = 0; sort < 3; sort++) {
            s.due("likely(" + sort + ", 0)", new EdgeChain().likely(sort, 0), Check.STATE);
            s.due("likely(" + sort + ", 1)", new EdgeChain().likely(sort, 1), Check.STATE);
        }
        s.due("likely(3, 0)", new EdgeChain().likely(3, 0), Check.BAD);
    }

    private void promiseBlind() {
        s.promise(30);
        s.says("Of single FAULTS: 0 how many are not seen by a TEST (all ANSWERS as without)");
        blindIs(0, 1, 0);
        s.says("1 how many pairs of others look alike (all ANSWERS alike)");
        blindIs(1, 0, 0);
        s.says("2 the number of the first FAULT that is not seen (NONE).");
        blindIs(2, 1, NONE);
        s.says("BAD;");
        for (int n : OUTSIDE) {
            s.due("blind(" + n + ", 0)", Check.nets(1).blind(n, 0), Check.BAD);
            s.due("blind(0, " + n + ")", Check.nets(1).blind(0, n), Check.BAD);
            s.due("blind(" + n + ", 0) of no NETS", new EdgeChain().blind(n, 0), Check.BAD);
            s.due("blind(0, " + n + ") of no NETS", new EdgeChain().blind(0, n), Check.BAD);
        }
        s.says("STATE: no NETS.");
        for (int sort = 0; sort < 3; sort++) {
            for (int what = 0; what < 3; what++) {
                s.due("blind(" + sort + ", " + what + ")", new EdgeChain().blind(sort, what), Check.STATE);
            }
        }
    }

    /** One net walked alone never has 0, so that STUCK at 1 is not seen; every other test sees and parts all faults. */
    private void blindIs(int what, int ofOneWalked, int ofOthers) {
        for (int n = 1; n <= 8; n++) {
            for (int sort = 0; sort < 3; sort++) {
                int due = n == 1 && sort == 2 ? ofOneWalked : ofOthers;
                s.due("blind(" + sort + ", " + what + ") of " + n, Check.nets(n).blind(sort, what), due);
                s.due("THE BOARD does not matter", boardWith(n, 0).blind(sort, what), due);
            }
        }
    }

    private void promiseNext() {
        s.promise(31);
        s.says("One row more (bits of NETS) that parts the LIKELY GUESSES best: by their levels in it they fall in heaps; "
            + "the greatest heap is the least; of several the least row: what 0 it, 1 the greatest heap.");
        EdgeChain x = boardWith(3, 6, 10);
        s.due("NETS 0, 1 up part one of ten", x.next(0, 0), 3);
        s.due("nine are left", x.next(0, 1), 9);
        s.due("no row parts them", x.next(1, 0), 0);
        s.due("all nine", x.next(1, 1), 9);
        s.due("one GUESS", Check.nets(8).next(0, 0), 0);
        s.due("one GUESS", Check.nets(8).next(0, 1), 1);
        for (int n = 1; n <= 3; n++) {
            for (int f = 0; f < faultsOf(n); f++) {
                for (int g = f + 1; g < faultsOf(n); g++) {
                    for (int sort = 0; sort < 3 && canBe(f, g); sort++) {
                        int[] due = nextOf(n, likelyOf(n, sort, answersBy(n, sort, f, g)));
                        s.due("faults " + f + " " + g + ", next(" + sort + ", 0)", boardWith(n, f, g).next(sort, 0), due[0]);
                        s.due("faults " + f + " " + g + ", next(" + sort + ", 1)", boardWith(n, f, g).next(sort, 1), due[1]);
                    }
                }
            }
        }
        s.says("BAD;");
        for (int n : OUTSIDE) {
            s.due("next(" + n + ", 0)", Check.nets(1).next(n, 0), Check.BAD);
            s.due("next(0, " + n + ")", Check.nets(1).next(0, n), Check.BAD);
            s.due("next(" + n + ", 0) of no NETS", new EdgeChain().next(n, 0), Check.BAD);
        }
        s.due("next(0, 2)", Check.nets(1).next(0, 2), Check.BAD);
        s.due("next(0, 2) of no GUESS", boardWith(8, 1, 2, 5).next(0, 2), Check.BAD);
        s.says("STATE: no NETS;");
        for (int sort = 0; sort < 3; sort++) {
            s.due("next(" + sort + ", 0)", new EdgeChain().next(sort, 0), Check.STATE);
            s.due("next(" + sort + ", 1)", new EdgeChain().next(sort, 1), Check.STATE);
        }
        s.says("NONE: no GUESS.");
        for (int sort = 0; sort < 3; sort++) {
            s.due("next(" + sort + ", 0)", boardWith(8, 1, 2, 5).next(sort, 0), NONE);
            s.due("next(" + sort + ", 1)", boardWith(8, 1, 2, 5).next(sort, 1), NONE);
        }
    }

    /** What a test takes if it is done by scans. */
    private static int scanned(EdgeChain x, int sort, int orderBits, int dataBits) {
        x.go(1);
        int sum = Check.scan(x, true, "0".repeat(orderBits));
        for (int row = 0; row <= x.rows(sort); row++) {
            sum += Check.scan(x, false, "0".repeat(dataBits));
        }
        return sum;
    }

    private void promiseCost() {
        s.promise(32);
        String text = "part 8 id 3 extest 254 cells oioioioioi;part 2;part 3 extest 1 cells o;part 2 id 1;";
        s.says("TICKS that a TEST costs from IDLE on: all ORDERS in (a scan() of as many bits as LENGTHS, summed), for each row DATA in "
            + "(a scan() of a bit for each CELL of a CHIP whose PART has EXTEST, one for any other CHIP), "
            + "and one such more to read what the last one brought.");
        for (int n = 1; n <= 8; n++) {
            EdgeChain x = Check.board(text, 0, 1, 2, 3);
            for (int i = 0; i < n; i++) {
                x.net();
            }
            for (int sort = 0; sort < 3; sort++) {
                int due = 4 + 15 + 2 + (rowsOf(n, sort) + 1) * (3 + 13 + 2);
                s.due("cost(" + sort + ") of " + n + " NETS", x.cost(sort), due);
            }
            s.due("no TICK", x.now(1), 0);
        }
        for (int sort = 0; sort < 3; sort++) {
            EdgeChain x = Check.board("part 2;part 2 extest 0 cells oio;", 0, 1);
            x.net();
            int rows = sort == 2 ? 1 : 2 * (sort + 1);
            s.due("cost(" + sort + ")", x.cost(sort), 10 + (rows + 1) * 9);
            EdgeChain y = Check.board("part 2;part 2 extest 0 cells oio;", 0, 1);
            y.net();
            s.due("by scan()", scanned(y, sort, 4, 4), x.cost(sort));
            y.go(13);
            s.due("from IDLE on, whatever the STATE is", y.cost(sort), x.cost(sort));
        }
        EdgeChain full = Check.board(text, 0, 0, 0, 0, 0, 0);
        for (int i = 0; i < 8; i++) {
            full.net();
        }
        s.due("a full board", full.cost(1), 4 + 48 + 2 + 9 * (3 + 60 + 2));
        EdgeChain least = Check.board("part 2;", 0);
        least.net();
        s.due("the least board", least.cost(2), 4 + 2 + 2 + 2 * (3 + 1 + 2));
        s.says("BAD;");
        for (int sort : OUTSIDE) {
            s.due("cost(" + sort + ")", full.cost(sort), Check.BAD);
            s.due("cost(" + sort + ") of nothing", new EdgeChain().cost(sort), Check.BAD);
        }
        s.says("STATE: no CHIPS, no NETS.");
        for (int sort = 0; sort < 3; sort++) {
            s.due("no CHIPS", Check.nets(8).cost(sort), Check.STATE);
            s.due("no NETS", Check.board(text, 0).cost(sort), Check.STATE);
            s.due("neither", new EdgeChain().cost(sort), Check.STATE);
        }
    }
}
