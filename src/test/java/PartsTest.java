/** Promises 2 to 6: the tape, the text of parts and its faults. */
public final class PartsTest {
    private static final Check CHECK = new Check();

    public static void main(String[] args) {
        tape();
        texts();
        faults();
        keptParts();
        partOf();
        CHECK.finish();
    }

    private static void tape() {
        EdgeChain x = new EdgeChain();
        for (int i = 1; i <= 30; i++) {
            CHECK.due("feed " + i, x.feed(0x2020202020202020L), 8 * i);
        }
        CHECK.due("feed 31", x.feed(0), Check.FULL);
        CHECK.due("count(9)", x.count(9), 240);
        CHECK.due("end(241)", x.end(241), Check.BAD);
        CHECK.due("end(-1)", x.end(-1), Check.BAD);
        CHECK.due("end(240)", x.end(240), 240);
        CHECK.due("end(233)", x.end(233), 240);
        CHECK.due("feed behind 233", x.feed(0), Check.FULL);
        CHECK.due("end(232)", x.end(232), 233);
        CHECK.due("feed behind 232", x.feed(0x7061727420343b20L), 240);
        CHECK.due("parts()", x.parts(), 1);
        CHECK.due("count(9)", x.count(9), 0);
        CHECK.due("part(0, 0)", x.part(0, 0), 4);
        CHECK.due("end(0)", x.end(0), 0);
        CHECK.due("end(1)", x.end(1), Check.BAD);
    }

    private static void text(String text, int answer, int fault) {
        EdgeChain x = new EdgeChain();
        Check.feed(x, text);
        CHECK.due("parts() of '" + text + "'", x.parts(), answer);
        CHECK.due("fault() of '" + text + "'", x.fault(), fault);
        CHECK.due("count(9) behind '" + text + "'", x.count(9), 0);
    }

    private static void texts() {
        text("", 0, 0);
        text("    ", 0, 0);
        text("part 2;", 1, 0);
        text("part2;part8;", 2, 0);
        text("  part  000000003  ;  ", 1, 0);
        text("part 2;part 3;part 4;part 5;part 6;part 7;", 6, 0);
        text("part 3 id 1;", 1, 0);
        text("part 3 id 999999999;", 1, 0);
        text("part 2 extest 0 cells i;", 1, 0);
        text("part 2 extest 1 sample 0 cells o;", 1, 0);
        text("part 2 extest 2 sample 1 cells ioioioioio id 5;", 1, 0);
        text("part8extest254cells o;", 1, 0);
        text("part8extest254cellso;", -24, 2);
    }

    private static void faults() {
        // 1: no token, a number that is too long
        text("?", -10, 1);
        text("part 4; A", -18, 1);
        text("partX", -14, 1);
        text("part 0000000004;", -15, 1);
        text("part 4 id 1234567891;", -20, 1);
        text("part\n4;", -14, 1);
        text("part 4" + (char) 255 + ";", -16, 1);
        text("part 4" + (char) 0, -16, 1);
        text("1234567890", -10, 1);
        text("!part 4;", -10, 1);
        text("part 4 {;", -17, 1);
        text("part 4 `;", -17, 1);
        text("part 4 /;", -17, 1);
        text("part 4:", -16, 1);
        text("part 4<", -16, 1);
        // 2: a token that can not stand there, the end
        text("4", -10, 2);
        text(";", -10, 2);
        text("parts 4;", -10, 2);
        text("par", -10, 2);
        text("qart 4;", -10, 2);
        text("parf 4;", -10, 2);
        text("part 4 dells i;", -17, 2);
        text("id 4;", -10, 2);
        text("part ;", -15, 2);
        text("part id;", -15, 2);
        text("part", -14, 2);
        text("part   ", -17, 2);
        text("part 4", -16, 2);
        text("part 4 id 7 ", -22, 2);
        text("part 4 part 4;", -17, 2);
        text("part 4 5;", -17, 2);
        text("part 4 ids 5;", -17, 2);
        text("part 4 id;", -19, 2);
        text("part 4 id id;", -20, 2);
        text("part 4 id", -19, 2);
        text("part 4 cells 5;", -23, 2);
        text("part 4 cells;", -22, 2);
        text("part 4 cells", -22, 2);
        text("part 4 sample x;", -24, 2);
        text("part 4;;", -17, 2);
        // 3: a number out of its bounds, an even id, a name of other letters or too long
        text("part 1;", -15, 3);
        text("part 9;", -15, 3);
        text("part 0;", -15, 3);
        text("part 999999999;", -15, 3);
        text("part 4 id 8;", -20, 3);
        text("part 4 id 0;", -20, 3);
        text("part 4 sample 15;", -24, 3);
        text("part 4 extest 15;", -24, 3);
        text("part 2 extest 3 cells i;", -24, 3);
        text("part 4 cells iox;", -23, 3);
        text("part 4 cells ioioioioioi;", -23, 3);
        text("part 4 cells io extest 14;", 1, 0);
        // 4: an item that is there already, a code that the other order has
        text("part 4 id 7 id 8;", -22, 4);
        text("part 4 sample 1 sample x", -26, 4);
        text("part 4 extest 1 extest", -26, 4);
        text("part 4 cells i cells 1", -25, 4);
        text("part 4 sample 1 extest 1;", -33, 4);
        text("part 4 extest 01 sample 1;", -34, 4);
        // 5: the seventh part
        text("part 2;part 2;part 2;part 2;part 2;part 2;part", -52, 5);
        text("part 2;part 2;part 2;part 2;part 2;part 2;x", -52, 2);
        text("part 2;part 2;part 2;part 2;part 2;part 2;part 99;", -52, 5);
        // 6: orders without cells, cells without an extest
        text("part 4 sample 1;", -25, 6);
        text("part 4 extest 1 ;", -26, 6);
        text("part 4 cells i;", -24, 6);
        text("part 4 sample 1 cells i;", -33, 6);
        text("part 4 sample 1 extest 2;", -34, 6);
        // the first one met
        text("part 9 X", -15, 3);
        text("part 4 id 8 id", -20, 3);
        text("part 4 sample 1; X", -25, 6);
    }

    private static void keptParts() {
        EdgeChain x = new EdgeChain();
        CHECK.due("three parts", Check.tell(x, Check.THREE), 3);
        CHECK.due("a fault", Check.tell(x, "part 5; part 6; part 7 id 8;"), -10 - 26);
        CHECK.due("fault()", x.fault(), 3);
        CHECK.due("count(0) behind a fault", x.count(0), 3);
        CHECK.due("part(0, 0) behind a fault", x.part(0, 0), 4);
        CHECK.due("part(0, 1) behind a fault", x.part(0, 1), 305419897);
        CHECK.due("fewer parts", Check.tell(x, "part 8 id 3;"), 1);
        CHECK.due("fault()", x.fault(), 0);
        CHECK.due("part(0, 0)", x.part(0, 0), 8);
        CHECK.due("part(0, 1)", x.part(0, 1), 3);
        CHECK.due("part(0, 2)", x.part(0, 2), Check.NONE);
        CHECK.due("part(0, 4)", x.part(0, 4), 0);
        CHECK.due("part(1, 0)", x.part(1, 0), Check.BAD);
        Check.tell(x, "part");
        x.chip(0);
        Check.feed(x, "part 2;");
        CHECK.due("parts() with a chip", x.parts(), Check.STATE);
        CHECK.due("the tape stays", x.count(9), 7);
        CHECK.due("the fault stays", x.fault(), 2);
        CHECK.due("the parts stay", x.part(0, 0), 8);
        EdgeChain again = new EdgeChain();
        Check.tell(again, "part 3 id 9 sample 1 extest 2 cells oo; part 4 extest 1 cells o;");
        CHECK.due("nothing of an old text is left", Check.tell(again, "part 3 extest 0 cells ii; part 5;"), 2);
        int[] left = {3, Check.NONE, Check.NONE, 0, 2, 0};
        for (int what = 0; what < 6; what++) {
            CHECK.due("part(0, " + what + ")", again.part(0, what), left[what]);
        }
        CHECK.due("part(0, 10)", again.part(0, 10), 0);
        CHECK.due("part(1, 3)", again.part(1, 3), Check.NONE);
        CHECK.due("part(1, 4)", again.part(1, 4), 0);
        EdgeChain none = new EdgeChain();
        Check.tell(none, Check.THREE);
        CHECK.due("an empty text", none.parts(), 0);
        CHECK.due("count(0)", none.count(0), 0);
    }

    private static void partOf() {
        EdgeChain x = Check.board(Check.THREE);
        int[][] due = {{4, 305419897, 2, 0, 4, 2}, {2, -4, -4, -4, 0, 0}, {3, -4, -4, 1, 2, 1}};
        for (int p = 0; p < 3; p++) {
            for (int what = 0; what < 6; what++) {
                CHECK.due("part(" + p + ", " + what + ")", x.part(p, what), due[p][what]);
            }
        }
        int[] out = {0, 1, 1, 0};
        for (int i = 0; i < 4; i++) {
            CHECK.due("part(0, " + (10 + i) + ")", x.part(0, 10 + i), out[i]);
        }
        for (int what : new int[] {-1, 6, 9, 14, 20, Integer.MAX_VALUE, Integer.MIN_VALUE}) {
            CHECK.due("part(0, " + what + ")", x.part(0, what), Check.BAD);
        }
        CHECK.due("part(1, 10)", x.part(1, 10), Check.BAD);
        CHECK.due("part(-1, 0)", x.part(-1, 0), Check.BAD);
        CHECK.due("part(3, 0)", x.part(3, 0), Check.BAD);
    }
}
