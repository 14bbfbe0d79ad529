import java.util.Arrays;

/** The sentences on what hangs in the chain and where it is broken: promises 17 to 19. */
final class ProbeSentences {
    private static final String TEXT = "part 8 id 999999999;part 2;part 3 id 1 extest 0 cells oo;";
    private final Sentences s;

    private ProbeSentences(Sentences s) {
        this.s = s;
    }

    static void hold(Sentences s) {
        ProbeSentences t = new ProbeSentences(s);
        t.foundTicks();
        t.foundAnswers();
        t.identityTicks();
        t.identityAnswers();
        t.promiseBroken();
    }

    private static EdgeChain chain(int... parts) {
        return Check.board(TEXT, parts);
    }

    /** Two latches whose next level is 0, in SHIFT DATA: the first five ticks bring a 1 into the highest. */
    private static EdgeChain aheadOfLatches() {
        EdgeChain x = Check.board("part 2 extest 0 cells oo;", 0);
        ChipSentences.order(x, 2, 0);
        x.go(4);
        x.ticks(2, 0, 0);
        return x;
    }

    private void foundTicks() {
        s.promise(17);
        s.says("What hangs in the chain, by TICKS alone: 5 TICKS with M 1 (D 1); go(SHIFT ORDERS);");
        for (int state = 0; state < 16; state++) {
            EdgeChain x = chain(0, 1);
            x.go(state);
            int before = x.now(1);
            s.due("found() from " + state, x.found(), 2);
            s.due("TICKS", x.now(1) - before, 5 + 5 + 64 + 4 + 20 + 3);
        }
        EdgeChain d = aheadOfLatches();
        d.found();
        s.due("D 1 came in the first of the five", d.chipOf(0, 4), 2);
        s.says("64 TICKS with D 1 (M 1 in the last one); go(SHIFT DATA);");
        EdgeChain six = chain(0, 0, 0, 0, 0, 0);
        six.cut(6, 1);
        six.found();
        s.due("TICKS until the last with D 0", six.now(1), 5 + 5 + 64 + 4 + 20);
        for (int c = 0; c < 6; c++) {
            s.due("all ones in CHIP " + c, six.chipOf(c, 2), 255);
            s.due("BYPASS in CHIP " + c, six.chipOf(c, 1), 0);
        }
        s.due("now(0)", six.now(0), 4);
        s.says("20 TICKS with D 0, M 0;");
        for (int c = 0; c < 6; c++) {
            s.due("0 in CHIP " + c, six.chipOf(c, 3), 0);
        }
        s.says("then up to 20 with D 1, M 0 until 1 leaves:");
        for (int n = 1; n <= 6; n++) {
            EdgeChain x = chain(Arrays.copyOf(new int[] {2, 1, 0, 0, 1, 2}, n));
            x.found();
            s.due("TICKS of " + n + " CHIPS", x.now(1), 5 + 5 + 64 + 4 + 20 + n + 1);
            s.due("now(0)", x.now(0), 4);
            s.due("D 1 in the last CHIP", x.chipOf(n - 1, 3), 1);
        }
        EdgeChain never = chain(1);
        never.cut(1, 0);
        never.found();
        s.due("TICKS if it never leaves", never.now(1), 5 + 5 + 64 + 4 + 20 + 20);
    }

    private void foundAnswers() {
        s.says("how many CHIPS (the TICKS with D 1 ahead of that one in which it left);");
        for (int n = 1; n <= 6; n++) {
            for (int part = 0; part < 3; part++) {
                int[] parts = new int[n];
                Arrays.fill(parts, part);
                EdgeChain x = chain(parts);
                s.due(n + " CHIPS of PART " + part, x.found(), n);
                s.due(n + " CHIPS of PART " + part + ", again", x.found(), n);
            }
        }
        s.says("NONE: it never left, or 1 left in the last TICK with D 0 already (then there are none with D 1).");
        for (int n = 1; n <= 6; n++) {
            for (int wire = 0; wire <= n; wire++) {
                EdgeChain zero = chain(Arrays.copyOf(new int[] {1, 0, 2, 0, 1, 2}, n));
                zero.cut(wire, 0);
                s.due("wire " + wire + " of " + n + " at 0", zero.found(), Check.NONE);
                s.due("all TICKS", zero.now(1), 5 + 5 + 64 + 4 + 20 + 20);
                EdgeChain one = chain(Arrays.copyOf(new int[] {1, 0, 2, 0, 1, 2}, n));
                one.cut(wire, 1);
                s.due("wire " + wire + " of " + n + " at 1", one.found(), Check.NONE);
                s.due("none with D 1", one.now(1), 5 + 5 + 64 + 4 + 20);
            }
        }
        s.says("STATE: no CHIPS.");
        EdgeChain none = chain();
        s.due("found()", none.found(), Check.STATE);
        s.due("now(1)", none.now(1), 0);
    }

    private void identityTicks() {
        s.promise(18);
        s.says("IDENTITY i from the end of the chain, by TICKS alone: 5 TICKS with M 1 (D 1); go(SHIFT DATA);");
        for (int state = 0; state < 16; state++) {
            EdgeChain x = chain(1, 0);
            x.go(state);
            int before = x.now(1);
            s.due("identity(0) from " + state, x.identity(0), 999999999);
            s.due("TICKS", x.now(1) - before, 5 + 4 + 32 + 1 + 32);
        }
        EdgeChain d = aheadOfLatches();
        d.identity(0);
        s.due("D 1 came in the first of the five", d.chipOf(0, 4), 2);
        s.says("then bit by bit as they leave (D 1, M 0): a 0 is a CHIP without an IDENTITY, "
            + "a 1 begins one of 32 bits (the lowest first),");
        EdgeChain x = chain(1, 2, 1, 0);
        long[] due = {999999999, 0, 1, 0, Check.NONE};
        for (int i = 0; i < 5; i++) {
            s.due("identity(" + i + ")", x.identity(i), due[i]);
        }
        s.due("now(0)", x.now(0), 4);
        s.due("D 1 in CHIP 0", x.chipOf(0, 3), 1);
        s.due("D 1 in CHIP 3", x.chipOf(3, 3), -1);
        s.says("until there are 8 of both,");
        EdgeChain zeros = chain(0, 1);
        zeros.cut(2, 0);
        s.due("8 without", zeros.identity(Check.NONE), 8);
        s.due("TICKS", zeros.now(1), 5 + 4 + 8);
        s.due("identity(7)", zeros.identity(7), 0);
        EdgeChain mixed = chain(2, 0, 1);
        mixed.cut(0, 0);
        s.due("8 of both", mixed.identity(Check.NONE), 8);
        s.due("TICKS", mixed.now(1), 5 + 4 + 1 + 32 + 32 + 5);
        s.due("identity(2)", mixed.identity(2), 1);
        s.due("identity(3)", mixed.identity(3), 0);
        s.due("identity(7)", mixed.identity(7), 0);
        s.says("or one is of ones alone (which does not count):");
        for (int n = 1; n <= 6; n++) {
            EdgeChain y = chain(Arrays.copyOf(new int[6], n));
            s.due(n + " CHIPS", y.identity(Check.NONE), n);
            s.due("TICKS", y.now(1), 5 + 4 + 32 * n + 32);
        }
        EdgeChain ones = chain(0, 1);
        ones.cut(2, 1);
        s.due("none at all", ones.identity(Check.NONE), 0);
        s.due("TICKS", ones.now(1), 5 + 4 + 32);
        s.due("identity(0)", ones.identity(0), Check.NONE);
        ones.cut(2, Check.NONE);
        ones.cut(1, 1);
        s.due("one without", ones.identity(Check.NONE), 1);
    }

    private void identityAnswers() {
        s.says("how many (i NONE), that of CHIP i from the end (as an int; 0: without).");
        for (int n = 1; n <= 6; n++) {
            EdgeChain x = chain(Arrays.copyOf(new int[] {0, 1, 2, 0, 1, 2}, n));
            long[] ids = {999999999, 0, 1, 999999999, 0, 1};
            s.due("how many of " + n, x.identity(Check.NONE), n);
            for (int i = 0; i < n; i++) {
                s.due("identity(" + i + ") of " + n, x.identity(i), ids[n - 1 - i]);
            }
        }
        s.says("BAD: i not NONE, 0 to 7;");
        EdgeChain y = chain(0);
        for (int i : new int[] {-1, -2, -3, -5, 8, 9, Integer.MAX_VALUE, Integer.MIN_VALUE}) {
            s.due("identity(" + i + ")", y.identity(i), Check.BAD);
            s.due("identity(" + i + ") of no CHIPS", chain().identity(i), Check.BAD);
        }
        s.due("no TICK", y.now(1), 0);
        s.says("STATE: no CHIPS;");
        for (int i : new int[] {Check.NONE, 0, 7}) {
            EdgeChain none = chain();
            s.due("identity(" + i + ")", none.identity(i), Check.STATE);
            s.due("now(1)", none.now(1), 0);
        }
        s.says("NONE: not so many.");
        for (int n = 1; n <= 6; n++) {
            for (int i = n; i < 8; i++) {
                s.due("identity(" + i + ") of " + n, chain(Arrays.copyOf(new int[6], n)).identity(i), Check.NONE);
            }
        }
        s.says("(The same TICKS whatever i is.)");
        for (int i : new int[] {Check.NONE, 0, 1, 2, 3, 7}) {
            EdgeChain x = chain(0, 1, 2);
            x.identity(i);
            s.due("TICKS of identity(" + i + ")", x.now(1), 5 + 4 + 32 + 1 + 32 + 32);
            s.due("now(0)", x.now(0), 4);
        }
    }

    private void promiseBroken() {
        s.promise(19);
        s.says("Where the chain is broken, by TICKS alone: 5 TICKS with M 1 (D 1); go(SHIFT ORDERS); "
            + "as many TICKS (D 1, M 0) as LENGTHS of all CHIPS, summed:");
        for (int state = 0; state < 16; state++) {
            EdgeChain x = chain(0, 1, 2);
            x.go(state);
            int before = x.now(1);
            x.broken();
            s.due("TICKS from " + state, x.now(1) - before, 5 + 5 + 8 + 2 + 3);
            s.due("now(0)", x.now(0), 11);
            s.due("D 1 in CHIP 0", x.chipOf(0, 2), 255);
            s.due("D 1 in CHIP 2", x.chipOf(2, 2), 7);
        }
        EdgeChain d = aheadOfLatches();
        d.broken();
        s.due("D 1 came in the first of the five", d.chipOf(0, 4), 2);
        s.says("the last CHIP whose ORDER REGISTER did not come as 1 (its bits, lowest first; those of the last CHIP come first);");
        for (int n = 1; n <= 6; n++) {
            for (int v = 0; v < 2; v++) {
                for (int wire = 1; wire <= n; wire++) {
                    EdgeChain x = chain(Arrays.copyOf(new int[] {1, 0, 2, 0, 1, 2}, n));
                    x.cut(wire, v);
                    s.due("wire " + wire + " of " + n + " at " + v, x.broken(), wire - 1);
                    x.cut(1, 1 - v);
                    s.due("wires 1 and " + wire + " of " + n, x.broken(), wire - 1);
                }
            }
        }
        s.says("NONE: all did.");
        for (int n = 1; n <= 6; n++) {
            EdgeChain x = chain(Arrays.copyOf(new int[] {1, 0, 2, 0, 1, 2}, n));
            s.due(n + " CHIPS", x.broken(), Check.NONE);
            x.cut(0, 0);
            s.due(n + " CHIPS, the wire ahead of all at 0", x.broken(), Check.NONE);
            x.cut(0, 1);
            s.due(n + " CHIPS, the wire ahead of all at 1", x.broken(), Check.NONE);
        }
        s.says("STATE: no CHIPS.");
        EdgeChain none = chain();
        s.due("broken()", none.broken(), Check.STATE);
        s.due("now(1)", none.now(1), 0);
    }
}
