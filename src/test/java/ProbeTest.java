import java.util.Arrays;

/** Promises 17 to 19: what hangs in a chain that nobody described, where it is broken. */
public final class ProbeTest {
    private static final Check CHECK = new Check();
    private static final String TEXT = "part 8 id 999999999; part 2; part 3 id 1 extest 0 cells o;";

    public static void main(String[] args) {
        found();
        identities();
        eightOfBoth();
        broken();
        levelsOfD();
        CHECK.finish();
    }

    private static void found() {
        CHECK.due("no chips", new EdgeChain().found(), Check.STATE);
        for (int n = 1; n <= 6; n++) {
            EdgeChain y = Check.board(TEXT, Arrays.copyOf(new int[] {0, 1, 2, 0, 1, 2}, n));
            CHECK.due("found " + n, y.found(), n);
            CHECK.due("ticks", y.now(1), 5 + 5 + 64 + 4 + 20 + n + 1);
            CHECK.due("now(0)", y.now(0), 4);
            CHECK.due("all in bypass", y.chipOf(n - 1, 1), 0);
            CHECK.due("found again from shift data", y.found(), n);
        }
        EdgeChain x = Check.board(TEXT, 1, 1);
        x.cut(2, 0);
        CHECK.due("0 for ever", x.found(), Check.NONE);
        CHECK.due("20 ticks with D 1", x.now(1), 5 + 5 + 64 + 4 + 20 + 20);
        EdgeChain y = Check.board(TEXT, 1, 1);
        y.cut(1, 1);
        CHECK.due("1 too early", y.found(), Check.NONE);
        CHECK.due("no ticks with D 1", y.now(1), 5 + 5 + 64 + 4 + 20);
    }

    private static void identities() {
        CHECK.due("no chips", new EdgeChain().identity(0), Check.STATE);
        EdgeChain x = Check.board(TEXT, 0, 1, 2);
        long[] due = {1, 0, 999999999, Check.NONE, Check.NONE, Check.NONE, Check.NONE, Check.NONE};
        CHECK.due("how many", x.identity(Check.NONE), 3);
        int first = x.now(1);
        CHECK.due("ticks", first, 5 + 4 + 32 + 1 + 32 + 32);
        CHECK.due("now(0)", x.now(0), 4);
        for (int i = 0; i < 8; i++) {
            CHECK.due("identity(" + i + ")", x.identity(i), due[i]);
            CHECK.due("the same ticks", x.now(1), first * (i + 2));
        }
        int before = x.now(1);
        for (int i : new int[] {-1, -2, -3, -5, 8, Integer.MAX_VALUE}) {
            CHECK.due("identity(" + i + ")", x.identity(i), Check.BAD);
            CHECK.due("BAD ahead of STATE", new EdgeChain().identity(i), Check.BAD);
        }
        CHECK.due("no tick", x.now(1), before);
    }

    private static void eightOfBoth() {
        EdgeChain x = Check.board(TEXT, 0, 2);
        x.cut(2, 0);
        CHECK.due("eight without", x.identity(Check.NONE), 8);
        CHECK.due("ticks", x.now(1), 5 + 4 + 8);
        CHECK.due("identity(7)", x.identity(7), 0);
        x.cut(2, 1);
        CHECK.due("none at all", x.identity(Check.NONE), 0);
        CHECK.due("identity(0)", x.identity(0), Check.NONE);
        x.cut(2, Check.NONE);
        x.cut(0, 0);
        CHECK.due("two, then 0", x.identity(Check.NONE), 8);
        CHECK.due("the second", x.identity(1), 999999999);
        CHECK.due("the third", x.identity(2), 0);
    }

    private static void broken() {
        CHECK.due("no chips", new EdgeChain().broken(), Check.STATE);
        EdgeChain x = Check.board(TEXT, 0, 1, 2, 1);
        CHECK.due("whole", x.broken(), Check.NONE);
        CHECK.due("ticks", x.now(1), 5 + 5 + 15);
        CHECK.due("now(0)", x.now(0), 11);
        int[] due = {Check.NONE, 0, 1, 2, 3};
        for (int c = 0; c <= 4; c++) {
            for (int v = 0; v < 2; v++) {
                x.cut(c, v);
                CHECK.due("cut " + c + " at " + v, x.broken(), due[c]);
                x.cut(c, Check.NONE);
            }
        }
        x.cut(1, 0);
        x.cut(3, 1);
        CHECK.due("the last of two", x.broken(), 2);
    }

    /** The first five ticks and those of broken() have D 1: it shows in latches and in order registers. */
    private static void levelsOfD() {
        for (int probe = 0; probe < 3; probe++) {
            EdgeChain x = Check.board("part 2 extest 0 cells oo;", 0);
            Check.scan(x, true, "00");
            x.go(4);
            x.ticks(2, 0, 0);
            if (probe == 0) {
                x.found();
            } else if (probe == 1) {
                x.identity(0);
            } else {
                x.broken();
                CHECK.due("order register behind broken()", x.chipOf(0, 2), 3);
            }
            CHECK.due("latches behind the first five", x.chipOf(0, 4), 2);
        }
        EdgeChain y = Check.board("part 2;", 0);
        y.found();
        CHECK.due("order register behind found()", y.chipOf(0, 2), 3);
        CHECK.due("bypass behind found()", y.chipOf(0, 3), 1);
        y.cut(1, 1);
        y.found();
        CHECK.due("bypass behind the ticks with D 0", y.chipOf(0, 3), 0);
        y.cut(1, Check.NONE);
        y.identity(0);
        CHECK.due("bypass behind identity()", y.chipOf(0, 3), 1);
    }
}
