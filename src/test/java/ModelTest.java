import java.util.ArrayList;
import java.util.List;
import java.util.Random;

/** Random runs of calls, the same in every run of this test, held against Model call by call. */
public final class ModelTest {
    private static final int RUNS = 300, CALLS = 512;

    private final Random random;
    private final EdgeChain x = new EdgeChain();
    private final Model y = new Model();
    private final List<String> calls = new ArrayList<>();
    private boolean wrong;

    private ModelTest(long seed) {
        random = new Random(seed);
    }

    public static void main(String[] args) {
        int wrongRuns = manyTexts();
        long asked = 0;
        for (int run = 0; run < RUNS && wrongRuns < 5; run++) {
            ModelTest t = new ModelTest(run);
            t.oneRun();
            asked += t.calls.size();
            if (t.wrong) {
                wrongRuns++;
                System.out.println("run " + run + " (the last 12 calls):");
                t.calls.subList(Math.max(0, t.calls.size() - 12), t.calls.size()).forEach(System.out::println);
            }
        }
        System.out.println(wrongRuns == 0 ? asked + " answers are as the model's" : wrongRuns + " runs are not as the model's");
        if (wrongRuns != 0) {
            System.exit(1);
        }
    }

    /** Short texts of random tokens: more of the faults than whole runs come to. */
    private static int manyTexts() {
        String[] tokens = {"part", "part ", "part 4 ", "part 2 ", "id ", "id 7 ", "id 6 ", "sample ", "sample 1 ", "sample 2 ", "sample 3 ",
            "extest ", "extest 1 ", "extest 2 ", "extest 14 ", "cells ", "cells i ", "cells oi ", "cells ioioioioioi ", ";", "; ", ";",
            " ", "i", "o", "1", "7 ", "15 ", "1234567890 ", "X", "\u0080", "?"};
        Random random = new Random(1);
        int wrongTexts = 0;
        for (int i = 0; i < 40000 && wrongTexts < 5; i++) {
            StringBuilder s = new StringBuilder(random.nextInt(4) == 0 ? "" : "part 4 ");
            for (int n = random.nextInt(12); n > 0; n--) {
                s.append(tokens[random.nextInt(tokens.length)]);
            }
            EdgeChain x = new EdgeChain();
            Model y = new Model();
            Check.feed(x, s.toString());
            y.tape = s.toString();
            int got = x.parts(), want = y.parts();
            boolean same = got == want && x.fault() == y.fault;
            for (int p = 0; p < 6; p++) {
                for (int what = 0; what < 6; what++) {
                    same &= x.part(p, what) == y.part(p, what);
                }
            }
            if (!same) {
                wrongTexts++;
                System.out.println("'" + s + "': " + got + ", fault " + x.fault() + ", due is " + want + ", fault " + y.fault);
            }
        }
        return wrongTexts;
    }

    private int below(int n) {
        return random.nextInt(n);
    }

    /** Mostly from 0 to n - 1, now and then just outside, seldom far away. */
    private int near(int n) {
        int r = below(100);
        if (r < 92 && n > 0) {
            return below(n);
        }
        int[] edges = {-1, n, n + 1, -2, -3, -4, -5, Integer.MIN_VALUE, Integer.MAX_VALUE, below(300) - 20};
        return edges[below(edges.length)];
    }

    private int levelOrNone() {
        int r = below(10);
        return r < 4 ? 0 : r < 7 ? 1 : r < 9 ? -4 : near(2);
    }

    /** What calls behind the 512th answer is free. */
    private void same(String call, long got, long want) {
        if (calls.size() == CALLS) {
            return;
        }
        calls.add(call + " = " + got + (got == want ? "" : ", due is " + want));
        wrong |= got != want;
    }

    private String text() {
        StringBuilder s = new StringBuilder();
        int n = below(12) == 0 ? 7 : below(4);
        for (int i = 0; i < n; i++) {
            int length = 2 + below(7);
            s.append("part ").append(length).append(n == 7 ? "" : items(length)).append(below(2) == 0 ? ";" : " ; ");
        }
        if (below(3) == 0 && s.length() > 0) {
            spoil(s);
        }
        return s.length() > 240 ? s.substring(0, 240) : s.toString();
    }

    private String items(int length) {
        List<String> items = new ArrayList<>();
        if (below(2) == 0) {
            items.add(" id " + (2 * below(499999999) + 1));
        }
        int codes = (1 << length) - 1;
        int extest = below(codes);
        if (below(4) != 0) {
            if (below(3) != 0) {
                items.add(" sample " + (extest + 1 + below(codes - 1)) % codes);
            }
            items.add(" extest " + extest);
            StringBuilder cells = new StringBuilder(" cells ");
            for (int i = 1 + below(10); i > 0; i--) {
                cells.append(below(2) == 0 ? 'i' : 'o');
            }
            items.add(cells.toString());
        }
        java.util.Collections.shuffle(items, random);
        return String.join("", items);
    }

    private void spoil(StringBuilder s) {
        String[] bits = {"", " ", ";", "part", "part 3", "id", " id 7 ", "id 8", "sample", " sample 1 ", "extest", " extest 0 ",
            "cells", " cells i ", "cells oiooiioioio ", "x", "A", "0", "1", "9", "123456789", "1234567890", "\0", "\u00ff", "\n"};
        for (int i = 1 + below(2); i > 0; i--) {
            int at = below(s.length() + 1);
            s.replace(at, Math.min(s.length(), at + below(4)), bits[below(bits.length)]);
        }
    }

    private void tell() {
        String text = text();
        if (y.tape.length() == 0 && below(20) != 0) {
            for (int i = 0; i < text.length(); i += 8) {
                long v = 0;
                for (int j = i; j < i + 8; j++) {
                    v = v << 8 | (j < text.length() ? text.charAt(j) & 255 : 'z');
                }
                feed(v);
            }
            end(text.length());
        } else {
            feed(random.nextLong());
            end(below(3) == 0 ? 0 : near(y.tape.length() + 1));
        }
        same("parts()", x.parts(), y.parts());
        same("fault()", x.fault(), y.fault);
        for (int p = 0; p <= y.parts.size(); p++) {
            int what = below(2) == 0 ? below(6) : 10 + near(10);
            same("part(" + p + ", " + what + ")", x.part(p, what), y.part(p, what));
        }
    }

    private void feed(long v) {
        same("feed(" + v + ")", x.feed(v), y.feed(v));
    }

    private void end(int n) {
        same("end(" + n + ")", x.end(n), y.end(n));
    }

    private void chips() {
        for (int i = 1 + below(6); i > 0; i--) {
            int p = near(y.parts.size());
            same("chip(" + p + ")", x.chip(p), y.chip(p));
        }
    }

    private void nets() {
        for (int i = 1 + below(9); i > 0; i--) {
            same("net()", x.net(), y.net());
        }
    }

    private void oneRun() {
        for (int i = below(3); i >= 0; i--) {
            tell();
        }
        if (below(10) != 0) {
            chips();
        }
        if (below(4) != 0) {
            nets();
        }
        int tests = 0;
        while (calls.size() < CALLS && !wrong) {
            int r = below(100);
            if (r < 20) {
                wires();
            } else if (r < 50) {
                ticks();
            } else if (r < 70) {
                looks();
            } else if (r < 72) {
                tell();
            } else if (r < 74) {
                growth();
            } else if (r < 80) {
                sheets();
            } else if (tests++ < 30) {
                tests();
            }
        }
    }

    private void growth() {
        if (below(2) == 0) {
            go(0);
            chips();
        } else {
            same("net()", x.net(), y.net());
        }
    }

    private void wires() {
        int n = y.nets;
        int a = near(n), b = near(n), v = levelOrNone(), c = near(y.chips.size()), cell = near(y.noChip(c) ? 10 : y.chips.get(c).cells());
        switch (below(6)) {
            case 0: case 1: same("join(" + a + ", " + c + ", " + cell + ")", x.join(a, c, cell), y.join(a, c, cell)); break;
            case 2: same("stick(" + a + ", " + v + ")", x.stick(a, v), y.stick(a, v)); break;
            case 3: same("bridge(" + a + ", " + b + ", " + v + ")", x.bridge(a, b, v), y.bridge(a, b, v)); break;
            case 4:
                boolean is = below(3) == 0;
                same("open(" + c + ", " + cell + ", " + is + ")", x.open(c, cell, is), y.open(c, cell, is));
                break;
            default:
                int w = near(y.chips.size() + 1), cut = below(3) == 0 ? v : -4;
                same("cut(" + w + ", " + cut + ")", x.cut(w, cut), y.cut(w, cut));
                break;
        }
    }

    private void go(int b) {
        same("go(" + b + ")", x.go(b), y.go(b));
    }

    private void ticks() {
        int i;
        switch (below(12)) {
            case 0: case 1:
                boolean m = below(2) == 0, d = below(2) == 0;
                same("tick(" + m + ", " + d + ")", x.tick(m, d), y.tick(m, d));
                break;
            case 2:
                int n = 1 + near(31), ms = below(3) == 0 ? random.nextInt() : 0, ds = random.nextInt();
                same("ticks(" + n + ", " + ms + ", " + ds + ")", x.ticks(n, ms, ds), y.ticks(n, ms, ds));
                break;
            case 3: go(near(16)); break;
            case 4: same("found()", x.found(), y.found()); break;
            case 5:
                i = below(2) == 0 ? -4 : near(8);
                same("identity(" + i + ")", x.identity(i), y.identity(i));
                break;
            case 6: same("broken()", x.broken(), y.broken()); break;
            case 7: orders(); break;
            default: scan(below(2) == 0); break;
        }
    }

    /** Shifts codes that tell an order into the chain, for random bits would mostly tell bypass. */
    private void orders() {
        List<Integer> bits = new ArrayList<>();
        for (int c = y.chips.size() - 1; c >= 0; c--) {
            Model.P p = y.chips.get(c).p;
            int r = below(4);
            int code = r < 2 && p.extest != null ? p.extest : r == 2 && p.sample != null ? p.sample : (1 << p.length) - 1 - below(2);
            bits.addAll(Model.bits(code, p.length));
        }
        if (bits.isEmpty()) {
            return;
        }
        same("sheet(0, 0, " + bits.size() + ")", x.sheet(0, 0, bits.size()), y.sheet(0, 0, bits.size()));
        for (int i = 0; i < bits.size(); i++) {
            if (bits.get(i) == 1) {
                lay(0, i, 1 + 2 * below(99));
            }
        }
        same("scan(true, 0, 0, 0, " + bits.size() + ")", x.scan(true, 0, 0, 0, bits.size()), y.scan(true, 0, 0, 0, bits.size()));
        go(1 + below(2));
    }

    private void scan(boolean orders) {
        int k = near(4);
        int size = k >= 0 && k < 4 && y.sheets[k] != null ? y.sheets[k].length : 10;
        int lane = k >= 0 && k < 4 && below(8) != 0 ? y.lanes[k] : near(3);
        int f = near(1 + size / 4), n = below(12) == 0 ? near(100) : 1 + below(Math.max(1, size - Math.max(0, Math.min(f, size))));
        same("scan(" + orders + ", " + k + ", " + lane + ", " + f + ", " + n + ")", x.scan(orders, k, lane, f, n),
            y.scan(orders, k, lane, f, n));
        int i = near(Math.max(1, y.log.size()));
        same("log(" + i + ")", x.log(i), y.log(i));
    }

    private void lay(int k, int i, int v) {
        same("lay(" + k + ", " + i + ", " + v + ")", x.lay(k, i, v), y.lay(k, i, v));
    }

    private void sheets() {
        int k = near(4), lane = near(3), n = near(101);
        if (below(4) == 0) {
            same("sheet(" + k + ", " + lane + ", " + n + ")", x.sheet(k, lane, n), y.sheet(k, lane, n));
        } else {
            for (int i = 0; i < 4; i++) {
                lay(k, near(30), random.nextInt());
            }
        }
    }

    private void looks() {
        int i, what;
        switch (below(8)) {
            case 0: case 1: case 2:
                i = near(y.chips.size());
                what = near(6);
                same("chipOf(" + i + ", " + what + ")", x.chipOf(i, what), y.chipOf(i, what));
                break;
            case 3: case 4:
                i = near(y.nets);
                what = near(4);
                same("netOf(" + i + ", " + what + ")", x.netOf(i, what), y.netOf(i, what));
                break;
            case 5: what = near(2); same("now(" + what + ")", x.now(what), y.now(what)); break;
            case 6: what = near(11); same("count(" + what + ")", x.count(what), y.count(what)); break;
            default:
                int a = near(16), b = near(16);
                what = near(2);
                same("path(" + a + ", " + b + ", " + what + ")", x.path(a, b, what), y.path(a, b, what));
                break;
        }
    }

    private void tests() {
        int sort = near(3), net = near(y.nets), what;
        switch (below(8)) {
            case 0: same("rows(" + sort + ")", x.rows(sort), y.rows(sort)); break;
            case 1:
                what = near(2);
                same("word(" + sort + ", " + net + ", " + what + ")", x.word(sort, net, what), y.word(sort, net, what));
                break;
            case 2:
                int f = near(y.faults()), g = below(3) == 0 ? -4 : near(y.faults());
                same("answer(" + sort + ", " + net + ", " + f + ", " + g + ")", x.answer(sort, net, f, g), y.answer(sort, net, f, g));
                break;
            case 3: case 4:
                int r = below(5);
                what = r == 0 ? near(2) : r == 1 ? 10000 + near(3) : r == 2 ? 20000 + near(3) : r == 3 ? 1 : 10000 * (1 + below(2)) + near(30);
                same("likely(" + sort + ", " + what + ")", x.likely(sort, what), y.likely(sort, what));
                break;
            case 5: what = near(3); same("blind(" + sort + ", " + what + ")", x.blind(sort, what), y.blind(sort, what)); break;
            case 6: what = near(2); same("next(" + sort + ", " + what + ")", x.next(sort, what), y.next(sort, what)); break;
            default: same("cost(" + sort + ")", x.cost(sort), y.cost(sort)); break;
        }
    }
}
