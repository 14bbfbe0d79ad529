import java.util.ArrayDeque;
import java.util.ArrayList;
import java.util.HashMap;
import java.util.List;
import java.util.Map;
import java.util.TreeSet;

/** The document once more, as plainly and as slowly as may be, for ModelTest to hold the class against. */
final class Model {
    static final int BAD = -1, STATE = -2, FULL = -3, NONE = -4;
    static final int[][] GOES = {{1, 0}, {1, 2}, {3, 9}, {4, 5}, {4, 5}, {6, 8}, {6, 7}, {4, 8}, {1, 2}, {10, 0},
        {11, 12}, {11, 12}, {13, 15}, {13, 14}, {11, 15}, {1, 2}};

    static final class P {
        int length;
        Integer id, sample, extest;
        String cells;
    }

    static final class C {
        int number;
        P p;
        int order;
        ArrayDeque<Integer> orders = zeros(0), bypass = zeros(1), identity = zeros(32), cellBits = zeros(0);
        int[] latch = new int[10], net = new int[10];
        boolean[] open = new boolean[10];

        ArrayDeque<Integer> register() {
            return order == 0 ? bypass : order == 1 ? identity : cellBits;
        }

        int cells() {
            return p.cells == null ? 0 : p.cells.length();
        }

        boolean isOut(int i) {
            return p.cells.charAt(i) == 'o';
        }
    }

    static final class Fault extends RuntimeException {
        private static final long serialVersionUID = 1;
        final int kind, place;

        Fault(int kind, int place) {
            this.kind = kind;
            this.place = place;
        }
    }

    String tape = "";
    List<P> parts = new ArrayList<>();
    int fault;
    List<C> chips = new ArrayList<>();
    Map<Integer, Integer> cuts = new HashMap<>();
    int state, ticks;
    List<Integer> log = new ArrayList<>();
    int nets;
    Map<Integer, Integer> stuck = new HashMap<>();
    Map<List<Integer>, Integer> shorts = new HashMap<>();
    int[][] sheets = new int[4][];
    int[] lanes = new int[4];

    static ArrayDeque<Integer> zeros(int n) {
        return bits(0, n);
    }

    static ArrayDeque<Integer> bits(long v, int n) {
        ArrayDeque<Integer> d = new ArrayDeque<>();
        for (int i = 0; i < n; i++) {
            d.add((int) (v >> i & 1));
        }
        return d;
    }

    static int number(Iterable<Integer> bits) {
        long v = 0;
        int i = 0;
        for (int b : bits) {
            v += (long) b << i++;
        }
        return (int) v;
    }

    // ---- parts, chips

    int feed(long v) {
        if (tape.length() + 8 > 240) {
            return FULL;
        }
        for (int shift = 56; shift >= 0; shift -= 8) {
            tape += (char) (v >>> shift & 255);
        }
        return tape.length();
    }

    int end(int n) {
        if (n < 0 || n > tape.length()) {
            return BAD;
        }
        int had = tape.length();
        tape = tape.substring(0, n);
        return had;
    }

    int pos, tokenAt;

    String token() {
        while (pos < tape.length() && tape.charAt(pos) == ' ') {
            pos++;
        }
        tokenAt = pos;
        if (pos == tape.length()) {
            return "";
        }
        String rest = tape.substring(pos);
        String t = rest.replaceFirst("(?s)^([a-z]+|[0-9]+|;).*", "$1");
        if (!t.matches("[a-z]+|[0-9]+|;") || t.matches("[0-9]{10,}")) {
            throw new Fault(1, tokenAt);
        }
        pos += t.length();
        return t;
    }

    int numberToken() {
        String t = token();
        if (!t.matches("[0-9]+")) {
            throw new Fault(2, tokenAt);
        }
        return Integer.parseInt(t);
    }

    int code(P p, Integer other) {
        int v = numberToken();
        if (!(v < Math.pow(2, p.length) - 1)) {
            throw new Fault(3, tokenAt);
        }
        if (other != null && other == v) {
            throw new Fault(4, tokenAt);
        }
        return v;
    }

    List<P> text() {
        pos = 0;
        List<P> list = new ArrayList<>();
        for (String t = token(); !t.equals(""); t = token()) {
            if (!t.equals("part")) {
                throw new Fault(2, tokenAt);
            }
            if (list.size() == 6) {
                throw new Fault(5, tokenAt);
            }
            list.add(onePart());
        }
        return list;
    }

    P onePart() {
        P p = new P();
        p.length = numberToken();
        if (p.length < 2 || p.length > 8) {
            throw new Fault(3, tokenAt);
        }
        for (String t = token(); !t.equals(";"); t = token()) {
            Object there = t.equals("id") ? p.id : t.equals("sample") ? p.sample : t.equals("extest") ? p.extest
                : t.equals("cells") ? p.cells : null;
            if (there != null) {
                throw new Fault(4, tokenAt);
            }
            switch (t) {
                case "id":
                    p.id = numberToken();
                    if (p.id % 2 != 1) {
                        throw new Fault(3, tokenAt);
                    }
                    break;
                case "sample": p.sample = code(p, p.extest); break;
                case "extest": p.extest = code(p, p.sample); break;
                case "cells":
                    p.cells = token();
                    if (!p.cells.matches("[a-z]+")) {
                        throw new Fault(2, tokenAt);
                    }
                    if (!p.cells.matches("[io]{1,10}")) {
                        throw new Fault(3, tokenAt);
                    }
                    break;
                default: throw new Fault(2, tokenAt);
            }
        }
        boolean ordered = p.sample != null || p.extest != null;
        if (ordered && p.cells == null || p.cells != null && p.extest == null) {
            throw new Fault(6, tokenAt);
        }
        return p;
    }

    int parts() {
        if (!chips.isEmpty()) {
            return STATE;
        }
        try {
            parts = text();
            fault = 0;
            return parts.size();
        } catch (Fault f) {
            fault = f.kind;
            return -10 - f.place;
        } finally {
            tape = "";
        }
    }

    static int orNone(Integer v) {
        return v == null ? NONE : v;
    }

    int part(int p, int what) {
        if (p < 0 || p >= parts.size()) {
            return BAD;
        }
        P q = parts.get(p);
        String cells = q.cells == null ? "" : q.cells;
        switch (what) {
            case 0: return q.length;
            case 1: return orNone(q.id);
            case 2: return orNone(q.sample);
            case 3: return orNone(q.extest);
            case 4: return cells.length();
            case 5: return cells.replace("i", "").length();
            default: return what < 10 || what >= 10 + cells.length() ? BAD : cells.charAt(what - 10) == 'o' ? 1 : 0;
        }
    }

    int chip(int part) {
        if (part < 0 || part >= parts.size()) {
            return BAD;
        }
        if (state != 0) {
            return STATE;
        }
        if (chips.size() == 6) {
            return FULL;
        }
        C c = new C();
        c.number = part;
        c.p = parts.get(part);
        c.order = c.p.id == null ? 0 : 1;
        c.orders = zeros(c.p.length);
        c.cellBits = zeros(c.cells());
        java.util.Arrays.fill(c.net, NONE);
        chips.add(c);
        return chips.size() - 1;
    }

    boolean noChip(int c) {
        return c < 0 || c >= chips.size();
    }

    int chipOf(int c, int what) {
        if (noChip(c)) {
            return BAD;
        }
        C h = chips.get(c);
        List<Integer> list = new ArrayList<>();
        switch (what) {
            case 0: return h.number;
            case 1: return h.order;
            case 2: return number(h.orders);
            case 3: return number(h.register());
            case 4:
                for (int i = 0; i < h.cells(); i++) {
                    list.add(h.latch[i]);
                }
                return number(list);
            case 5:
                for (int i = 0; i < h.cells(); i++) {
                    list.add(atFoot(h, i));
                }
                return number(list);
            default: return BAD;
        }
    }

    int cut(int c, int v) {
        if (c < 0 || c > chips.size() || v != 0 && v != 1 && v != NONE) {
            return BAD;
        }
        Integer was = cuts.put(c, v);
        return orNone(was);
    }

    // ---- ticks

    int wire(int c, int carried) {
        int v = cuts.getOrDefault(c, NONE);
        return v == NONE ? carried : v;
    }

    int step(boolean m, int d) {
        int left = NONE;
        if (state == 4 || state == 11) {
            int carried = d;
            for (int c = 0; c < chips.size(); c++) {
                ArrayDeque<Integer> r = state == 11 ? chips.get(c).orders : chips.get(c).register();
                r.addLast(wire(c, carried));
                carried = r.removeFirst();
            }
            left = wire(chips.size(), carried);
        }
        List<List<Integer>> caught = new ArrayList<>();
        for (C c : chips) {
            List<Integer> feet = new ArrayList<>();
            for (int i = 0; i < c.cells(); i++) {
                feet.add(state == 3 ? atFoot(c, i) : 0);
            }
            caught.add(feet);
        }
        for (int i = 0; i < chips.size(); i++) {
            C c = chips.get(i);
            if (state == 0) {
                c.order = c.p.id != null ? 1 : 0;
            } else if (state == 10) {
                c.orders = bits(1, c.p.length);
            } else if (state == 15) {
                int code = number(c.orders);
                c.order = c.p.sample != null && c.p.sample == code ? 2 : c.p.extest != null && c.p.extest == code ? 3
                    : c.p.id != null && code == Math.pow(2, c.p.length) - 2 ? 1 : 0;
            } else if (state == 3) {
                if (c.order == 0) {
                    c.bypass = zeros(1);
                } else if (c.order == 1) {
                    c.identity = bits(c.p.id, 32);
                } else {
                    c.cellBits = new ArrayDeque<>(caught.get(i));
                }
            } else if (state == 8 && c.order >= 2) {
                Integer[] now = c.cellBits.toArray(new Integer[0]);
                for (int k = 0; k < now.length; k++) {
                    if (c.isOut(k)) {
                        c.latch[k] = now[k];
                    }
                }
            }
        }
        state = GOES[state][m ? 1 : 0];
        ticks++;
        return left;
    }

    int tick(boolean m, boolean d) {
        return chips.isEmpty() ? STATE : step(m, d ? 1 : 0);
    }

    int ticks(int n, int ms, int ds) {
        if (n < 1 || n > 31) {
            return BAD;
        }
        if (chips.isEmpty()) {
            return STATE;
        }
        int out = 0;
        for (int i = 0; i < n; i++) {
            int left = step((ms >> i & 1) == 1, ds >> i & 1);
            out += (left == 1 ? 1 : 0) << i;
        }
        return out;
    }

    int now(int what) {
        return what == 0 ? state : what == 1 ? ticks : BAD;
    }

    int path(int a, int b, int what) {
        if (a < 0 || a > 15 || b < 0 || b > 15 || what < 0 || what > 1) {
            return BAD;
        }
        for (int n = 0; n < 16; n++) {
            for (int way = 0; way < 1 << n; way++) {
                int s = a;
                for (int i = 0; i < n; i++) {
                    s = GOES[s][way >> i & 1];
                }
                if (s == b) {
                    return what == 0 ? n : way;
                }
            }
        }
        throw new IllegalStateException("no way");
    }

    int go(int b) {
        if (b < 0 || b > 15) {
            return BAD;
        }
        if (chips.isEmpty()) {
            return STATE;
        }
        int n = path(state, b, 0);
        int way = path(state, b, 1);
        for (int i = 0; i < n; i++) {
            step((way >> i & 1) == 1, 1);
        }
        return n;
    }

    int scan(boolean orders, int k, int lane, int f, int n) {
        if (n < 1 || n > 99 || k < 0 || k > 3 || lane < 0 || lane > 2) {
            return BAD;
        }
        if (chips.isEmpty()) {
            return STATE;
        }
        if (sheets[k] == null) {
            return -11;
        }
        if (lanes[k] != lane) {
            return -13;
        }
        for (long i = f; i < (long) f + n; i++) {
            if (i < 0 || i >= sheets[k].length) {
                return -12;
            }
        }
        int before = ticks;
        go(orders ? 11 : 4);
        log = new ArrayList<>();
        for (int i = 0; i < n; i++) {
            log.add(step(i == n - 1, sheets[k][f + i] & 1));
        }
        go(1);
        return ticks - before;
    }

    int log(int i) {
        return i < 0 ? BAD : i < log.size() ? log.get(i) : NONE;
    }

    void fiveOnes() {
        for (int i = 0; i < 5; i++) {
            step(true, 1);
        }
    }

    int found() {
        if (chips.isEmpty()) {
            return STATE;
        }
        fiveOnes();
        go(11);
        for (int i = 1; i <= 64; i++) {
            step(i == 64, 1);
        }
        go(4);
        int last = 0;
        for (int i = 1; i <= 20; i++) {
            last = step(false, 0);
        }
        for (int i = 0; i < 20 && last == 0; i++) {
            if (step(false, 1) == 1) {
                return i;
            }
        }
        return NONE;
    }

    long identity(int i) {
        if (i != NONE && (i < 0 || i > 7)) {
            return BAD;
        }
        if (chips.isEmpty()) {
            return STATE;
        }
        fiveOnes();
        go(4);
        List<Integer> seen = new ArrayList<>();
        while (seen.size() < 8) {
            List<Integer> bits = new ArrayList<>();
            bits.add(step(false, 1));
            while (bits.get(0) == 1 && bits.size() < 32) {
                bits.add(step(false, 1));
            }
            if (!bits.contains(0)) {
                break;
            }
            seen.add(number(bits));
        }
        return i == NONE ? seen.size() : i < seen.size() ? seen.get(i) : NONE;
    }

    int broken() {
        if (chips.isEmpty()) {
            return STATE;
        }
        fiveOnes();
        go(11);
        List<Integer> came = new ArrayList<>();
        for (int i = 0; i < count(2); i++) {
            came.add(step(false, 1));
        }
        int at = 0;
        for (int c = chips.size() - 1; c >= 0; c--) {
            int n = chips.get(c).p.length;
            if (number(came.subList(at, at + n)) != 1) {
                return c;
            }
            at += n;
        }
        return NONE;
    }

    // ---- nets

    int net() {
        return nets == 8 ? FULL : nets++;
    }

    boolean noNet(int n) {
        return n < 0 || n >= nets;
    }

    boolean noFoot(int chip, int cell) {
        return noChip(chip) || cell < 0 || cell >= chips.get(chip).cells();
    }

    int feet(int net) {
        int n = 0;
        for (C c : chips) {
            for (int i = 0; i < c.cells(); i++) {
                n += c.net[i] == net ? 1 : 0;
            }
        }
        return n;
    }

    int join(int net, int chip, int cell) {
        if (noNet(net) || noFoot(chip, cell)) {
            return BAD;
        }
        if (chips.get(chip).net[cell] != NONE) {
            return STATE;
        }
        chips.get(chip).net[cell] = net;
        return feet(net);
    }

    int stick(int net, int v) {
        if (noNet(net) || v != 0 && v != 1 && v != NONE) {
            return BAD;
        }
        Integer was = v == NONE ? stuck.remove(net) : stuck.put(net, v);
        return orNone(was);
    }

    int bridge(int a, int b, int kind) {
        if (noNet(a) || noNet(b) || a == b || kind != 0 && kind != 1 && kind != NONE) {
            return BAD;
        }
        List<Integer> key = List.of(Math.min(a, b), Math.max(a, b));
        Integer was = kind == NONE ? shorts.remove(key) : shorts.put(key, kind);
        return orNone(was);
    }

    int open(int chip, int cell, boolean is) {
        if (noFoot(chip, cell)) {
            return BAD;
        }
        boolean was = chips.get(chip).open[cell];
        chips.get(chip).open[cell] = is;
        return was ? 1 : 0;
    }

    int drives(C c, int i) {
        return c.open[i] ? NONE : c.order == 3 ? c.latch[i] : 0;
    }

    int own(int net) {
        int least = 1;
        for (C c : chips) {
            for (int i = 0; i < c.cells(); i++) {
                if (c.net[i] == net && c.isOut(i) && drives(c, i) != NONE) {
                    least = Math.min(least, drives(c, i));
                }
            }
        }
        return least;
    }

    /** Each short: a, b, kind. */
    List<int[]> boardShorts() {
        List<int[]> list = new ArrayList<>();
        shorts.forEach((k, v) -> list.add(new int[] {k.get(0), k.get(1), v}));
        return list;
    }

    static TreeSet<Integer> heap(int net, List<int[]> shorts) {
        TreeSet<Integer> set = new TreeSet<>(List.of(net));
        boolean grew = true;
        while (grew) {
            grew = false;
            for (int[] s : shorts) {
                if (set.contains(s[0]) != set.contains(s[1])) {
                    set.add(s[0]);
                    set.add(s[1]);
                    grew = true;
                }
            }
        }
        return set;
    }

    static int level(int net, int[] own, Map<Integer, Integer> stuck, List<int[]> shorts) {
        TreeSet<Integer> set = heap(net, shorts);
        for (int i : set) {
            if (stuck.containsKey(i)) {
                return stuck.get(i);
            }
        }
        boolean least = false;
        for (int[] s : shorts) {
            least |= set.contains(s[0]) && s[2] == 0;
        }
        int min = 1, max = 0;
        for (int i : set) {
            min = Math.min(min, own[i]);
            max = Math.max(max, own[i]);
        }
        return least ? min : max;
    }

    int[] owns() {
        int[] own = new int[nets];
        for (int i = 0; i < nets; i++) {
            own[i] = own(i);
        }
        return own;
    }

    int atFoot(C c, int i) {
        if (c.isOut(i)) {
            return Math.max(0, drives(c, i));
        }
        return c.open[i] || c.net[i] == NONE ? 1 : level(c.net[i], owns(), stuck, boardShorts());
    }

    int netOf(int net, int what) {
        if (noNet(net)) {
            return BAD;
        }
        switch (what) {
            case 0: return level(net, owns(), stuck, boardShorts());
            case 1: return own(net);
            case 2: return feet(net);
            case 3: return heap(net, boardShorts()).first();
            default: return BAD;
        }
    }

    // ---- tests

    int width() {
        int w = 0;
        while (Math.pow(2, w) < nets + 2) {
            w++;
        }
        return w;
    }

    int rows(int sort) {
        if (sort < 0 || sort > 2) {
            return BAD;
        }
        return nets == 0 ? STATE : sort == 0 ? width() : sort == 1 ? 2 * width() : nets;
    }

    int has(int sort, int net, int row) {
        int w = width();
        if (sort == 2) {
            return net == row ? 1 : 0;
        }
        return row < w ? net + 1 >> row & 1 : 1 - (net + 1 >> row - w & 1);
    }

    int[] testRow(int sort, int row) {
        int[] own = new int[nets];
        for (int i = 0; i < nets; i++) {
            own[i] = has(sort, i, row);
        }
        return own;
    }

    int answers(int sort, int net, Map<Integer, Integer> stuck, List<int[]> shorts) {
        int bits = 0;
        for (int r = 0; r < rows(sort); r++) {
            bits |= level(net, testRow(sort, r), stuck, shorts) << r;
        }
        return bits;
    }

    int word(int sort, int net, int what) {
        if (sort < 0 || sort > 2 || noNet(net) || what < 0 || what > 1) {
            return BAD;
        }
        return what == 1 ? answers(sort, net, stuck, boardShorts()) : answers(sort, net, Map.of(), List.of());
    }

    int faults() {
        return 2 * nets + nets * (nets - 1);
    }

    static void addFault(int n, int f, Map<Integer, Integer> stuck, List<int[]> shorts) {
        if (f == NONE) {
            return;
        }
        if (f < 2 * n) {
            stuck.merge(f / 2, f % 2, Math::min);
            return;
        }
        int q = (f - 2 * n) / 2;
        int at = 0;
        for (int a = 0; a < n; a++) {
            for (int b = a + 1; b < n; b++) {
                if (at++ == q) {
                    shorts.add(new int[] {a, b, f % 2});
                }
            }
        }
    }

    int answer(int sort, int net, int f, int g) {
        if (sort < 0 || sort > 2 || noNet(net)) {
            return BAD;
        }
        boolean fIs = f >= 0 && f < faults(), gIs = g >= 0 && g < faults();
        if (!(f == NONE && g == NONE || fIs && g == NONE || fIs && gIs && f != g)) {
            return BAD;
        }
        Map<Integer, Integer> stuckBy = new HashMap<>();
        List<int[]> shortsBy = new ArrayList<>();
        addFault(nets, f, stuckBy, shortsBy);
        addFault(nets, g, stuckBy, shortsBy);
        return answers(sort, net, stuckBy, shortsBy);
    }

    List<Integer> allAnswers(int sort, int f, int g) {
        List<Integer> list = new ArrayList<>();
        for (int i = 0; i < nets; i++) {
            list.add(answer(sort, i, f, g));
        }
        return list;
    }

    boolean explains(int sort, int f, int g) {
        for (int i = 0; i < nets; i++) {
            if (answer(sort, i, f, g) != word(sort, i, 1)) {
                return false;
            }
        }
        return true;
    }

    List<int[]> likely(int sort) {
        List<int[]> list = new ArrayList<>();
        if (explains(sort, NONE, NONE)) {
            list.add(new int[] {NONE, NONE});
        }
        for (int f = 0; f < faults() && (list.isEmpty() || list.get(0)[0] != NONE); f++) {
            if (explains(sort, f, NONE)) {
                list.add(new int[] {f, NONE});
            }
        }
        if (!list.isEmpty()) {
            return list;
        }
        for (int f = 0; f < faults(); f++) {
            for (int g = f + 1; g < faults(); g++) {
                if (explains(sort, f, g)) {
                    list.add(new int[] {f, g});
                }
            }
        }
        return list;
    }

    int likely(int sort, int what) {
        if (sort < 0 || sort > 2 || what != 0 && what != 1 && what < 10000) {
            return BAD;
        }
        if (nets == 0) {
            return what < 2 ? STATE : BAD;
        }
        List<int[]> list = likely(sort);
        if (what == 1) {
            return list.size();
        }
        if (what == 0) {
            return list.isEmpty() ? NONE : (list.get(0)[0] == NONE ? 0 : 1) + (list.get(0)[1] == NONE ? 0 : 1);
        }
        int i = what < 20000 ? what - 10000 : what - 20000;
        return i >= list.size() ? BAD : list.get(i)[what < 20000 ? 0 : 1];
    }

    int blind(int sort, int what) {
        if (sort < 0 || sort > 2 || what < 0 || what > 2) {
            return BAD;
        }
        if (nets == 0) {
            return STATE;
        }
        List<Integer> sound = allAnswers(sort, NONE, NONE);
        List<Integer> unseen = new ArrayList<>();
        List<List<Integer>> others = new ArrayList<>();
        for (int f = 0; f < faults(); f++) {
            List<Integer> by = allAnswers(sort, f, NONE);
            if (by.equals(sound)) {
                unseen.add(f);
            } else {
                others.add(by);
            }
        }
        if (what != 1) {
            return what == 0 ? unseen.size() : unseen.isEmpty() ? NONE : unseen.get(0);
        }
        int pairs = 0;
        for (int i = 0; i < others.size(); i++) {
            for (int j = 0; j < i; j++) {
                pairs += others.get(i).equals(others.get(j)) ? 1 : 0;
            }
        }
        return pairs;
    }

    int next(int sort, int what) {
        if (sort < 0 || sort > 2 || what < 0 || what > 1) {
            return BAD;
        }
        if (nets == 0) {
            return STATE;
        }
        List<int[]> list = likely(sort);
        if (list.isEmpty()) {
            return NONE;
        }
        int bestRow = 0, best = Integer.MAX_VALUE;
        for (int row = 0; row < 1 << nets; row++) {
            int[] own = new int[nets];
            for (int i = 0; i < nets; i++) {
                own[i] = row >> i & 1;
            }
            Map<List<Integer>, Integer> heaps = new HashMap<>();
            for (int[] guess : list) {
                Map<Integer, Integer> stuckBy = new HashMap<>();
                List<int[]> shortsBy = new ArrayList<>();
                addFault(nets, guess[0], stuckBy, shortsBy);
                addFault(nets, guess[1], stuckBy, shortsBy);
                List<Integer> levels = new ArrayList<>();
                for (int i = 0; i < nets; i++) {
                    levels.add(level(i, own, stuckBy, shortsBy));
                }
                heaps.merge(levels, 1, Integer::sum);
            }
            int greatest = 0;
            for (int h : heaps.values()) {
                greatest = Math.max(greatest, h);
            }
            if (greatest < best) {
                best = greatest;
                bestRow = row;
            }
        }
        return what == 0 ? bestRow : best;
    }

    int cost(int sort) {
        if (sort < 0 || sort > 2) {
            return BAD;
        }
        if (chips.isEmpty() || nets == 0) {
            return STATE;
        }
        int data = 0;
        for (C c : chips) {
            data += c.p.extest == null ? 1 : c.cells();
        }
        int orderScan = path(1, 11, 0) + count(2) + path(12, 1, 0);
        int dataScan = path(1, 4, 0) + data + path(5, 1, 0);
        return orderScan + (rows(sort) + 1) * dataScan;
    }

    // ---- sheets

    int sheet(int k, int lane, int n) {
        if (k < 0 || k > 3 || lane < 0 || lane > 2 || n > 100) {
            return BAD;
        }
        if (n < 0) {
            return -14;
        }
        sheets[k] = new int[n];
        lanes[k] = lane;
        return 1;
    }

    int lay(int k, int i, int v) {
        if (k < 0 || k > 3) {
            return BAD;
        }
        if (sheets[k] == null) {
            return -11;
        }
        if (i < 0 || i >= sheets[k].length) {
            return -12;
        }
        sheets[k][i] = v;
        return 1;
    }

    int count(int what) {
        int sum = 0;
        for (C c : chips) {
            for (int i = 0; i < 10; i++) {
                sum += what == 7 && c.open[i] ? 1 : 0;
            }
            sum += what == 2 ? c.p.length : what == 3 ? c.cells() : 0;
        }
        switch (what) {
            case 0: return parts.size();
            case 1: return chips.size();
            case 2: case 3: case 7: return sum;
            case 4: return nets;
            case 5: return shorts.size();
            case 6: return stuck.size();
            case 8: return log.size();
            case 9: return tape.length();
            case 10: return sheets[0] == null ? NONE : sheets[0].length;
            default: return BAD;
        }
    }
}
