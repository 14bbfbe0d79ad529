import java.util.function.Supplier;
import java.util.function.ToLongFunction;

/** The sentences on answers in common, on a new object, and on the 512 calls: terms, promise 1. */
final class AnswerSentences {
    private static final int[] FAR = {Integer.MIN_VALUE, -5, -3, -2, -1, 8, 16, 100, 240, Integer.MAX_VALUE};
    private final Sentences s;

    private AnswerSentences(Sentences s) {
        this.s = s;
    }

    static void hold(Sentences s) {
        AnswerSentences t = new AnswerSentences(s);
        t.use();
        t.answers();
        t.firstThatFits();
        t.refusalsOfABusyBoard();
        t.refusalsOfFullAndEmptyOnes();
        t.promiseNew();
    }

    private void use() {
        s.use();
        s.says("An object is used for at most 512 calls after it has been made;");
        EdgeChain x = Check.board("part 2;", 0);
        for (int i = 0; i < 507; i++) {
            x.ticks(31, -1, -1);
        }
        s.due("the 512th call, now(1)", x.now(1), 507 * 31);
        EdgeChain y = Check.nets(8);
        y.stick(3, 1);
        y.bridge(0, 7, 0);
        for (int i = 11; i <= 510; i += 3) {
            s.due("next(1, 1), call " + i, y.next(1, 1), 1);
            s.due("likely(1, 10000), call " + i, y.likely(1, 10000), 7);
            s.due("likely(1, 20000), call " + i, y.likely(1, 20000), 28);
        }
        EdgeChain z = Check.board("part 8 id 7;", 0, 0, 0, 0, 0, 0);
        for (int i = 11; i <= 512; i++) {
            s.due("identity(5), call " + i, z.identity(5), 7);
        }
        EdgeChain tape = new EdgeChain();
        for (int i = 0; i < 512 / 2; i++) {
            s.due("feed, call " + 2 * i, tape.feed(0x7061727420343b20L), 8);
            s.due("parts(), call " + (2 * i + 1), tape.parts(), 1);
        }
        s.asksNothing("what later calls answer is free.");
    }

    private void answers() {
        s.terms("Answers:");
        s.asksNothing("Answers:");
        EdgeChain x = Check.board(Check.THREE, 0);
        x.net();
        s.says("BAD -1 (a number is not as told");
        s.due("BAD", EdgeChain.BAD, -1);
        s.due("now(2)", x.now(2), -1);
        s.due("cut(0, 2)", x.cut(0, 2), -1);
        s.due("rows(3)", x.rows(3), -1);
        s.due("sheet(0, 3, 0)", x.sheet(0, 3, 0), -1);
        s.says("there is no such PART, CHIP, CELL, NET, SHEET)");
        s.due("chip(3)", x.chip(3), -1);
        s.due("chipOf(1, 0)", x.chipOf(1, 0), -1);
        s.due("open(0, 4, true)", x.open(0, 4, true), -1);
        s.due("netOf(1, 0)", x.netOf(1, 0), -1);
        s.due("lay(4, 0, 0)", x.lay(4, 0, 0), -1);
        s.says("STATE -2 (as told)");
        s.due("STATE", EdgeChain.STATE, -2);
        s.due("tick", new EdgeChain().tick(true, true), -2);
        s.says("FULL -3");
        s.due("FULL", EdgeChain.FULL, -3);
        s.due("the ninth net()", Check.nets(8).net(), -3);
        s.says("NONE -4 (there is none)");
        s.due("NONE", EdgeChain.NONE, -4);
        s.due("log(0)", x.log(0), -4);
        s.due("broken()", x.broken(), -4);
    }

    private void firstThatFits() {
        s.says("the first that fits");
        EdgeChain none = new EdgeChain();
        s.due("ticks(0), no CHIPS", none.ticks(0, 0, 0), Check.BAD);
        s.due("go(16), no CHIPS", none.go(16), Check.BAD);
        s.due("identity(8), no CHIPS", none.identity(8), Check.BAD);
        s.due("scan of no lane, no CHIPS", none.scan(true, 0, 3, 0, 1), Check.BAD);
        s.due("scan of nothing, no CHIPS", none.scan(true, 0, 0, 0, 1), Check.STATE);
        s.due("rows(3), no NETS", none.rows(3), Check.BAD);
        s.due("likely(0, 2), no NETS", none.likely(0, 2), Check.BAD);
        s.due("likely(3, 0), no NETS", none.likely(3, 0), Check.BAD);
        s.due("likely(0, 10000), no NETS", none.likely(0, 10000), Check.BAD);
        s.due("blind(0, 3), no NETS", none.blind(0, 3), Check.BAD);
        s.due("next(0, 2), no NETS", none.next(0, 2), Check.BAD);
        s.due("cost(3), no CHIPS, no NETS", none.cost(3), Check.BAD);
        s.due("sheet of no lane, n -1", none.sheet(0, 3, -1), Check.BAD);
        s.due("lay(4, -1)", none.lay(4, -1, 0), Check.BAD);
        s.due("lay(0, -1), nothing", none.lay(0, -1, 0), -11);
        EdgeChain six = Check.board(Check.THREE, 0, 0, 0, 0, 0, 0);
        s.due("chip(3), six CHIPS", six.chip(3), Check.BAD);
        six.go(1);
        s.due("chip(3), six CHIPS, not in RESET", six.chip(3), Check.BAD);
        s.due("chip(0), six CHIPS, not in RESET", six.chip(0), Check.STATE);
        six.net();
        six.join(0, 0, 0);
        s.due("join(1, 0, 0), it is on one", six.join(1, 0, 0), Check.BAD);
        six.sheet(0, 1, 2);
        s.due("scan of another lane, f -1", six.scan(true, 0, 0, -1, 1), -13);
        s.due("scan of nothing, f -1", six.scan(true, 1, 0, -1, 1), -11);
        s.due("log(-1), no LOG", six.log(-1), Check.BAD);
    }

    /** A board with something of everything, in SHIFT DATA. */
    private static EdgeChain busy() {
        EdgeChain x = Check.board("part 8 id 305419897 sample 2 extest 0 cells iooi; part 2; part 3 extest 1 cells oi;", 0, 1, 2);
        for (int i = 0; i < 3; i++) {
            x.net();
        }
        x.join(0, 0, 1);
        x.join(0, 2, 1);
        x.join(1, 2, 0);
        x.join(1, 0, 0);
        x.join(2, 0, 2);
        x.sheet(0, 0, 7);
        for (int i = 0; i < 7; i += 2) {
            x.lay(0, i, 1);
        }
        x.sheet(1, 1, 3);
        x.lay(1, 1, -1);
        x.sheet(2, 2, 0);
        Check.scan(x, true, "100" + "11" + "00000000");
        Check.scan(x, false, "11" + "0" + "0110");
        x.stick(2, 0);
        x.bridge(0, 1, 1);
        x.open(0, 3, true);
        x.cut(1, 0);
        x.cut(3, 1);
        x.feed(0x7061727420333b20L);
        x.go(4);
        return x;
    }

    private void refused(String call, Supplier<EdgeChain> maker, ToLongFunction<EdgeChain> asked, long want) {
        EdgeChain x = maker.get();
        s.due(call, asked.applyAsLong(x), want);
        s.due(call, Look.at(x), Look.at(maker.get()));
    }

    private void bad(String call, ToLongFunction<EdgeChain> asked) {
        refused(call, AnswerSentences::busy, asked, Check.BAD);
    }

    private void refusalsOfABusyBoard() {
        s.says("what is refused changes nothing (but THE TAPE, as told).");
        for (int n : FAR) {
            if (n != 8) {
                bad("end(" + n + ")", x -> x.end(n));
            }
            bad("part(" + n + ", 0)", x -> x.part(n, 0));
            bad("chip(" + n + ")", x -> x.chip(n));
            bad("chipOf(" + n + ", 0)", x -> x.chipOf(n, 0));
            bad("chipOf(0, " + n + ")", x -> x.chipOf(0, n));
            bad("cut(" + n + ", 0)", x -> x.cut(n, 0));
            bad("cut(0, " + n + ")", x -> x.cut(0, n));
            bad("now(" + n + ")", x -> x.now(n));
            bad("join(" + n + ", 0, 3)", x -> x.join(n, 0, 3));
            bad("join(0, " + n + ", 3)", x -> x.join(0, n, 3));
            bad("join(0, 0, " + n + ")", x -> x.join(0, 0, n));
            bad("stick(" + n + ", 0)", x -> x.stick(n, 0));
            bad("stick(0, " + n + ")", x -> x.stick(0, n));
            bad("bridge(" + n + ", 0, 0)", x -> x.bridge(n, 0, 0));
            bad("bridge(0, " + n + ", 0)", x -> x.bridge(0, n, 0));
            bad("bridge(0, 2, " + n + ")", x -> x.bridge(0, 2, n));
            bad("open(" + n + ", 0, true)", x -> x.open(n, 0, true));
            bad("open(0, " + n + ", true)", x -> x.open(0, n, true));
            bad("netOf(" + n + ", 0)", x -> x.netOf(n, 0));
            bad("rows(" + n + ")", x -> x.rows(n));
            bad("word(0, " + n + ", 0)", x -> x.word(0, n, 0));
            bad("answer(0, " + n + ", 0, 1)", x -> x.answer(0, n, 0, 1));
            bad("likely(" + n + ", 0)", x -> x.likely(n, 0));
            bad("blind(0, " + n + ")", x -> x.blind(0, n));
            bad("next(0, " + n + ")", x -> x.next(0, n));
            bad("cost(" + n + ")", x -> x.cost(n));
            bad("sheet(" + n + ", 0, 1)", x -> x.sheet(n, 0, 1));
            bad("sheet(0, " + n + ", 1)", x -> x.sheet(0, n, 1));
            bad("lay(" + n + ", 0, 1)", x -> x.lay(n, 0, 1));
            bad("scan(true, " + n + ", 0, 0, 1)", x -> x.scan(true, n, 0, 0, 1));
            bad("scan(true, 0, " + n + ", 0, 1)", x -> x.scan(true, 0, n, 0, 1));
        }
        for (int n : new int[] {Integer.MIN_VALUE, -1, 0, 100, Integer.MAX_VALUE}) {
            bad("ticks(" + n + ")", x -> x.ticks(n, 5, 5));
            bad("scan(true, 0, 0, 0, " + n + ")", x -> x.scan(true, 0, 0, 0, n));
        }
        for (int n : new int[] {Integer.MIN_VALUE, -5, -1, 16, Integer.MAX_VALUE}) {
            bad("path(" + n + ", 0, 0)", x -> x.path(n, 0, 0));
            bad("go(" + n + ")", x -> x.go(n));
            bad("identity(" + n + ")", x -> x.identity(n));
            bad("log(-1)", x -> x.log(-1));
        }
        refusalsWithStateOrFault();
    }

    private void refusalsWithStateOrFault() {
        Supplier<EdgeChain> busy = AnswerSentences::busy;
        bad("bridge(1, 1, 0)", x -> x.bridge(1, 1, 0));
        bad("bridge(1, 1, NONE)", x -> x.bridge(1, 1, Check.NONE));
        bad("sheet(0, 0, 101)", x -> x.sheet(0, 0, 101));
        refused("parts()", busy, EdgeChain::parts, Check.STATE);
        refused("chip(0)", busy, x -> x.chip(0), Check.STATE);
        refused("join(0, 0, 0)", busy, x -> x.join(0, 0, 0), Check.STATE);
        refused("join(1, 0, 0)", busy, x -> x.join(1, 0, 0), Check.STATE);
        refused("log(7)", busy, x -> x.log(7), Check.NONE);
        refused("sheet(0, 1, -1)", busy, x -> x.sheet(0, 1, -1), -14);
        refused("sheet(3, 1, -1)", busy, x -> x.sheet(3, 1, -1), -14);
        refused("lay(2, 0, 1)", busy, x -> x.lay(2, 0, 1), -12);
        refused("lay(0, 7, 1)", busy, x -> x.lay(0, 7, 1), -12);
        refused("lay(0, -1, 1)", busy, x -> x.lay(0, -1, 1), -12);
        refused("scan(true, 0, 1, 0, 1)", busy, x -> x.scan(true, 0, 1, 0, 1), -13);
        refused("scan(true, 0, 0, 7, 1)", busy, x -> x.scan(true, 0, 0, 7, 1), -12);
        refused("scan(false, 0, 0, 1, 7)", busy, x -> x.scan(false, 0, 0, 1, 7), -12);
        refused("scan(false, 2, 2, 0, 1)", busy, x -> x.scan(false, 2, 2, 0, 1), -12);
    }

    private static EdgeChain full() {
        EdgeChain x = Check.board("part 8 id 3;", 0, 0, 0, 0, 0, 0);
        for (int i = 0; i < 8; i++) {
            x.net();
        }
        return x;
    }

    private static EdgeChain chipless() {
        EdgeChain x = Check.board(Check.THREE);
        StringBuilder blanks = new StringBuilder("part 5 id 9;");
        while (blanks.length() < 240) {
            blanks.append(' ');
        }
        Check.feed(x, blanks.toString());
        x.sheet(0, 0, 5);
        return x;
    }

    private void refusalsOfFullAndEmptyOnes() {
        refused("chip(0)", AnswerSentences::full, x -> x.chip(0), Check.FULL);
        refused("net()", AnswerSentences::full, EdgeChain::net, Check.FULL);
        Supplier<EdgeChain> chipless = AnswerSentences::chipless;
        refused("feed(0)", chipless, x -> x.feed(0), Check.FULL);
        refused("end(241)", chipless, x -> x.end(241), Check.BAD);
        refused("end(-1)", chipless, x -> x.end(-1), Check.BAD);
        refused("tick()", chipless, x -> x.tick(false, true), Check.STATE);
        refused("ticks()", chipless, x -> x.ticks(5, 0, 0), Check.STATE);
        refused("go(4)", chipless, x -> x.go(4), Check.STATE);
        refused("scan()", chipless, x -> x.scan(true, 0, 0, 0, 5), Check.STATE);
        refused("found()", chipless, EdgeChain::found, Check.STATE);
        refused("identity(0)", chipless, x -> x.identity(0), Check.STATE);
        refused("broken()", chipless, EdgeChain::broken, Check.STATE);
        refused("rows(0)", chipless, x -> x.rows(0), Check.STATE);
        refused("likely(0, 0)", chipless, x -> x.likely(0, 0), Check.STATE);
        refused("blind(0, 0)", chipless, x -> x.blind(0, 0), Check.STATE);
        refused("next(0, 0)", chipless, x -> x.next(0, 0), Check.STATE);
        refused("cost(0)", chipless, x -> x.cost(0), Check.STATE);
        refused("lay(1, 0, 0)", chipless, x -> x.lay(1, 0, 0), -11);
        EdgeChain x = chipless();
        x.end(6);
        s.due("parts() of a text without its end", x.parts(), -16);
        s.due("count(9): the tape is empty", x.count(9), 0);
        s.due("count(0): the parts are those of before", x.count(0), 3);
    }

    private void promiseNew() {
        s.promise(1);
        EdgeChain x = new EdgeChain();
        s.says("No PARTS, CHIPS, NETS;");
        s.due("count(0)", x.count(0), 0);
        s.due("count(1)", x.count(1), 0);
        s.due("count(4)", x.count(4), 0);
        s.due("part(0, 0)", x.part(0, 0), Check.BAD);
        s.due("chipOf(0, 0)", x.chipOf(0, 0), Check.BAD);
        s.due("netOf(0, 0)", x.netOf(0, 0), Check.BAD);
        s.due("tick()", x.tick(true, true), Check.STATE);
        s.due("rows(0)", x.rows(0), Check.STATE);
        s.says("RESET;");
        s.due("now(0)", x.now(0), 0);
        s.due("now(1)", x.now(1), 0);
        s.says("SHEETS of nothing.");
        s.due("count(10)", x.count(10), Check.NONE);
        for (int k = 0; k < 4; k++) {
            s.due("lay(" + k + ", 0, 0)", x.lay(k, 0, 0), -11);
        }
        EdgeChain y = Check.board(Check.THREE, 0);
        for (int k = 0; k < 4; k++) {
            s.due("scan of " + k, y.scan(true, k, 0, 0, 1), -11);
        }
    }
}
