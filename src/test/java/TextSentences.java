/** The sentences on the tape, on texts and their faults, on parts: terms, promises 2 to 6. */
final class TextSentences {
    private static final String SIX = "part 2;part 3;part 4;part 5;part 6;part 7;";
    private final Sentences s;

    private TextSentences(Sentences s) {
        this.s = s;
    }

    static void hold(Sentences s) {
        TextSentences t = new TextSentences(s);
        t.tape();
        t.tokens();
        t.grammar();
        t.items();
        t.order();
        t.faultsOneAndTwo();
        t.faultsThreeToSix();
        t.partList();
        t.promiseFeed();
        t.promiseEnd();
        t.promiseParts();
        t.promiseFault();
        t.promisePart();
    }

    private static String padded(String text, int length) {
        StringBuilder b = new StringBuilder(text);
        while (b.length() < length) {
            b.append(' ');
        }
        return b.toString();
    }

    private void taken(String text, int parts) {
        EdgeChain x = new EdgeChain();
        s.due("parts() of '" + text + "'", Check.tell(x, text), parts);
        s.due("fault() of '" + text + "'", x.fault(), 0);
        s.due("count(0) of '" + text + "'", x.count(0), parts);
    }

    /** The sign ^ stands ahead of the place of the fault, and is no part of the text. */
    private void refused(int fault, String marked) {
        String text = marked.replace("^", "");
        EdgeChain x = new EdgeChain();
        s.due("parts() of '" + text + "'", Check.tell(x, text), -10 - marked.indexOf('^'));
        s.due("fault() of '" + text + "'", x.fault(), fault);
        s.due("count(0) of '" + text + "'", x.count(0), 0);
    }

    private void tape() {
        s.terms("THE TAPE has");
        s.says("THE TAPE has 240 bytes");
        EdgeChain x = new EdgeChain();
        for (int i = 0; i < 29; i++) {
            x.feed(0x2020202020202020L);
        }
        s.due("the 30th feed", x.feed(0x2020202020202020L), 240);
        s.due("the 31st feed", x.feed(0x2020202020202020L), Check.FULL);
        s.due("parts() of 240 blanks", x.parts(), 0);
        taken(padded("", 233) + "part 4;", 1);
        s.says("places from 0.");
        refused(1, "^?");
        refused(1, padded("", 239) + "^?");
        refused(2, padded("part 4", 240) + "^");
    }

    private void tokens() {
        s.says("TOKENS, each as long as may be");
        taken("part4id7sample2extest3cells io;part2;", 2);
        refused(2, "^parts 4;");
        refused(2, "^partpart 4;");
        refused(3, "part ^22;");
        refused(2, "part 4 extest 1 ^cellsio;");
        s.says("blanks (32) between");
        taken("  part  4  id  7  ;  ", 1);
        taken("part 4;part 4;", 2);
        for (int sign : new int[] {0, 9, 10, 13, 31, 33, 160, 255}) {
            refused(1, "part^" + (char) sign + "4;");
            refused(1, "^" + (char) sign);
        }
        s.says("NAMES (a .. z)");
        refused(2, "^a");
        refused(2, "^z");
        refused(2, "part 4 ^abcdefghijklmnopqrstuvwxyz;");
        for (int sign : new int[] {'a' - 1, 'z' + 1, 'A', 'Z', '_', 'a' + 128, 'z' + 128}) {
            refused(1, "^" + (char) sign);
            refused(2, "^part" + "s" + (char) sign);
            refused(1, "part^" + (char) sign + " 4;");
        }
        s.says("NUMBERS (1 to 9 figures)");
        taken("part 2;", 1);
        taken("part 000000002;", 1);
        refused(1, "part ^0000000002;");
        refused(2, "^0");
        refused(2, "^9");
        for (int sign : new int[] {'0' - 1, '9' + 1, '-', '+', '.', '0' + 128}) {
            refused(1, "part ^" + (char) sign + "2;");
            refused(1, "part 2^" + (char) sign + ";");
        }
        s.says("one ; .");
        taken("part 2;", 1);
        refused(2, "part 2;^;");
        refused(1, "part 2^:");
        refused(1, "part 2^<");
    }

    private void grammar() {
        s.terms("text: { part }");
        s.says("text: { part }");
        taken("", 0);
        taken(" ", 0);
        taken("part 2;", 1);
        taken(SIX, 6);
        refused(2, "^id 7;");
        refused(2, "part 2; ^4");
        s.says("part: part N { item } ;");
        taken("part 3;", 1);
        taken("part 3 id 5;", 1);
        taken("part 3 id 5 sample 1 extest 2 cells i;", 1);
        refused(2, "part ^;");
        refused(2, "part ^id 5;");
        refused(2, "part 3^");
        refused(2, "part 3 ^part 3;");
        refused(2, "part 3 ^3;");
        s.says("item: id N | sample N | extest N | cells NAME");
        String[] items = {" id 9", " sample 4", " extest 1", " cells oio"};
        int orders = 0;
        for (int order = 0; order < 256; order++) {
            int a = order >> 6, b = order >> 4 & 3, c = order >> 2 & 3, d = order & 3;
            if ((1 << a | 1 << b | 1 << c | 1 << d) == 15) {
                orders++;
                EdgeChain x = Check.board("part 3" + items[a] + items[b] + items[c] + items[d] + ";");
                s.due("part() in order " + order, Look.part(x, 0), "3 9 4 1 3 2 1 0 1");
            }
        }
        s.due("orders of four items", orders, 24);
        for (String item : new String[] {"id", "sample", "extest"}) {
            refused(2, "part 3 " + item + "^;");
            refused(2, "part 3 " + item + " ^x;");
            refused(2, "part 3 " + item + "^");
        }
        refused(2, "part 3 cells ^7;");
        refused(2, "part 3 cells^;");
        refused(2, "part 3 cells^");
    }

    private void items() {
        s.terms("part: its ORDER LENGTH");
        s.says("part: its ORDER LENGTH (2 to 8).");
        for (int length = 2; length <= 8; length++) {
            taken("part " + length + ";", 1);
            s.due("part(0, 0)", Check.board("part " + length + ";").part(0, 0), length);
        }
        for (String n : new String[] {"0", "1", "9", "10", "22", "256", "999999999"}) {
            refused(3, "part ^" + n + ";");
        }
        s.says("id: its IDENTITY (an odd number)");
        for (int id : new int[] {1, 3, 255, 257, 65537, 999999997, 999999999}) {
            s.due("part(0, 1)", Check.board("part 2 id " + id + ";").part(0, 1), id);
        }
        for (int id : new int[] {0, 2, 256, 999999998}) {
            refused(3, "part 2 id ^" + id + ";");
        }
        s.says("sample, extest: the CODES of these ORDERS (below 2 to the LENGTH, less 1).");
        for (int length = 2; length <= 8; length++) {
            codes(length);
        }
        s.says("cells: 1 to 10 letters, each i (in) or o (out)");
        taken("part 2 extest 0 cells i;", 1);
        taken("part 2 extest 0 cells o;", 1);
        taken("part 2 extest 0 cells ioioioioio;", 1);
        refused(3, "part 2 extest 0 cells ^ioioioioioi;");
        for (String cells : new String[] {"a", "z", "h", "j", "n", "p", "ioa", "ioioioioiz", "cells"}) {
            refused(3, "part 2 extest 0 cells ^" + cells + ";");
        }
        s.says("CELL 0, 1, .. .");
        s.due("part()", Look.part(Check.board("part 2 extest 0 cells oiiooooiii;"), 0), "2 -4 -4 0 10 5 1 0 0 1 1 1 1 0 0 0");
        s.says("Each item once at most.");
        refused(4, "part 4 id 7 ^id 7;");
        refused(4, "part 4 sample 1 ^sample 2;");
        refused(4, "part 4 extest 1 ^extest 2;");
        refused(4, "part 4 cells i ^cells i;");
        refused(4, "part 4 id 7 sample 1 extest 2 cells i ^id 7;");
        taken("part 4 id 7;part 4 id 7;", 2);
    }

    private void codes(int length) {
        int ones = (1 << length) - 1;
        for (String order : new String[] {"sample", "extest"}) {
            String other = order.equals("sample") ? " cells o extest " : " cells o sample ";
            taken("part " + length + " " + order + " 0" + other + "1;", 1);
            taken("part " + length + " " + order + " " + (ones - 1) + other + "0;", 1);
            for (int code : new int[] {ones, ones + 1, ones + 2, 2 * ones + 1, 999999999}) {
                refused(3, "part " + length + " " + order + " ^" + code + other + "0;");
            }
        }
        EdgeChain x = Check.board("part " + length + " sample " + (ones - 1) + " cells o extest " + (ones - 2) + ";");
        s.due("part(0, 2)", x.part(0, 2), ones - 1);
        s.due("part(0, 3)", x.part(0, 3), ones - 2);
    }

    private void order() {
        s.terms("FAULTS, the first met");
        s.says("FAULTS, the first met as it is read (a TOKEN is read when the one before has been taken):");
        refused(1, "part ^? 9;");
        refused(2, "^x ?");
        refused(2, "part ^; ?");
        refused(2, "part 4 ^x ?");
        refused(3, "part ^9?");
        refused(3, "part 4 id ^8?");
        refused(3, "part 4 sample ^15 ; ?");
        refused(3, "part 4 cells ^ix? ;");
        refused(4, "part 4 id 7 ^id ?");
        refused(4, "part 4 sample 1 ^sample 99;");
        refused(4, "part 4 cells i ^cells 1234567890");
        refused(4, "part 4 sample 1 extest ^1?");
        refused(5, SIX + "^part ?");
        refused(5, SIX + "^part 99;");
        refused(6, "part 4 extest 1^;?");
        refused(6, "part 4 cells i^; part 9;");
        refused(3, "part 4 extest ^15;");
        refused(3, "part 3 id ^4 id 7;");
    }

    private void faultsOneAndTwo() {
        s.says("1 no TOKEN");
        refused(1, "^?");
        refused(1, "part 4; ^,");
        refused(1, "part 4^,");
        refused(1, "part 4 id 7^=");
        refused(1, "part 4 cells i^I;");
        s.says("a NUMBER that is too long (its first byte).");
        refused(1, "^1234567890");
        refused(1, "part ^0000000004;");
        refused(1, "part 4 id   ^1000000001;");
        refused(1, "part 4 sample ^00000000000000000001;");
        refused(1, "part 4 ^1111111111;");
        s.says("2 a TOKEN that can not stand there (a NAME that is no item;");
        refused(2, "^7");
        refused(2, "^;");
        refused(2, "^cells");
        refused(2, "part ^part 4;");
        refused(2, "part 4 ^7;");
        refused(2, "part 4 ^size 7;");
        refused(2, "part 4 ^i;");
        refused(2, "part 4 ^ids 7;");
        refused(2, "part 4 ^part;");
        for (String name : new String[] {"part", "id", "sample", "extest", "cells"}) {
            for (int i = 0; i < name.length(); i++) {
                String other = name.substring(0, i) + "q" + name.substring(i + 1);
                refused(2, name.equals("part") ? "^" + other + " 4;" : "part 4 ^" + other + " 1;");
            }
            refused(2, name.equals("part") ? "^" + name + "s 4;" : "part 4 ^" + name + "s 1;");
            refused(2, name.equals("part") ? "^par 4;" : "part 4 ^" + name.substring(0, name.length() - 1) + " 1;");
        }
        refused(2, "part 4 id ^cells;");
        refused(2, "part 4 cells ^;");
        refused(2, "part 4 cells ^4;");
        s.says("or the end: the length).");
        refused(2, "part^");
        refused(2, "part   ^");
        refused(2, "part 4^");
        refused(2, "part 4    ^");
        refused(2, "part 4 id^");
        refused(2, "part 4 id 7  ^");
        refused(2, "part 4 cells ^");
        refused(2, padded("part 4 cells i", 240) + "^");
    }

    private void faultsThreeToSix() {
        s.says("3 a NUMBER out of its bounds");
        refused(3, "part   ^1;");
        refused(3, "part   ^9;");
        refused(3, "part 2 sample   ^3;");
        refused(3, "part 2 extest   ^3;");
        s.says("an even id");
        refused(3, "part 4 id   ^6;");
        refused(3, "part 4 id ^0;");
        s.says("a NAME of other letters, or too long.");
        refused(3, "part 4 cells   ^oix;");
        refused(3, "part 4 cells   ^oooooooooooo;");
        refused(3, "part 4 cells   ^ooooooooooi;");
        s.says("4 an item that is there already (its NAME)");
        refused(4, "part 4 id 7   ^id 9;");
        refused(4, "part 4 id 7   ^id");
        refused(4, "part 4 cells io extest 2   ^cells io;");
        s.says("a CODE that the other ORDER has (it).");
        refused(4, "part 4 sample 1 extest   ^1;");
        refused(4, "part 4 extest 0 sample   ^0;");
        refused(4, "part 4 extest 14 sample ^0014;");
        taken("part 4 extest 1 sample 2 cells i id 1;", 1);
        s.says("5 the 7th part (part).");
        refused(5, SIX + "^part 2;");
        refused(5, SIX + "   ^part");
        refused(2, SIX + "^;");
        taken(SIX + "   ", 6);
        s.says("6 (at the ; ) a sample or an extest without cells");
        refused(6, "part 4 sample 1^;");
        refused(6, "part 4 extest 1  ^;");
        refused(6, "part 4 sample 1 extest 2 id 7^;");
        s.says("cells without an extest.");
        refused(6, "part 4 cells i^;");
        refused(6, "part 4 cells i sample 1  ^;");
        refused(6, "part 2; part 4 id 1 cells i^; part 2;");
        taken("part 4 cells i extest 1;", 1);
    }

    private void partList() {
        s.terms("PARTS (6) are numbered");
        s.says("PARTS (6) are numbered as they are told");
        EdgeChain x = Check.board(SIX);
        for (int p = 0; p < 6; p++) {
            s.due("part(" + p + ", 0)", x.part(p, 0), p + 2);
        }
        s.due("part(6, 0)", x.part(6, 0), Check.BAD);
        refused(5, SIX + "^part 8;");
        s.says("a text that is taken tells all PARTS, in place of the old ones.");
        Check.tell(x, "part 8 id 7; part 7;");
        s.due("count(0)", x.count(0), 2);
        s.due("part(0, 0)", x.part(0, 0), 8);
        s.due("part(1, 0)", x.part(1, 0), 7);
        s.due("part(2, 0)", x.part(2, 0), Check.BAD);
        Check.tell(x, "part 3 extest 0 cells oo;");
        s.due("part(0, 1)", x.part(0, 1), Check.NONE);
        Check.tell(x, "part 3 id 5;");
        s.due("part()", Look.part(x, 0), "3 5 -4 -4 0 0");
        Check.tell(x, "");
        s.due("count(0) behind an empty text", x.count(0), 0);
        s.due("chip(0) behind an empty text", x.chip(0), Check.BAD);
    }

    private void promiseFeed() {
        s.promise(2);
        s.says("Eight bytes come behind THE TAPE, the highest first");
        for (int place = 0; place < 8; place++) {
            EdgeChain x = new EdgeChain();
            x.feed(0x2020202020202020L ^ 0xdfL << 56 - 8 * place);
            s.due("a byte 255 at " + place, x.parts(), -10 - place);
            EdgeChain y = new EdgeChain();
            y.feed(0x2020202020202020L);
            y.feed(0x2020202020202020L ^ 0x20L << 56 - 8 * place);
            s.due("a byte 0 at 8 + " + place, y.parts(), -18 - place);
        }
        EdgeChain z = new EdgeChain();
        z.feed(0x7061727420332069L);
        z.feed(0x6420373b20202020L);
        s.due("parts() of part 3 i, d 7;", z.parts(), 1);
        s.due("part(0, 1)", z.part(0, 1), 7);
        s.says("how many it has.");
        EdgeChain x = new EdgeChain();
        for (int i = 1; i <= 30; i++) {
            s.due("feed " + i, x.feed(-1), 8 * i);
        }
        EdgeChain y = new EdgeChain();
        y.feed(0);
        y.end(3);
        s.due("behind three bytes", y.feed(0), 11);
        s.says("FULL: more than 240.");
        for (int had = 232; had <= 240; had++) {
            EdgeChain full = new EdgeChain();
            Check.feed(full, padded("part 5;", had));
            s.due("feed behind " + had, full.feed(0x7061727420343b20L), had == 232 ? 240 : Check.FULL);
            s.due("count(9)", full.count(9), had == 232 ? 240 : had);
            s.due("parts()", full.parts(), had == 232 ? 2 : 1);
            s.due("feed then", full.feed(0), 8);
        }
    }

    private void promiseEnd() {
        s.promise(3);
        s.says("THE TAPE keeps its first n bytes");
        EdgeChain x = new EdgeChain();
        x.feed(0x7061727420333f3fL);
        x.end(6);
        s.due("count(9)", x.count(9), 6);
        x.feed(0x3b20202020202020L);
        s.due("parts()", x.parts(), 1);
        s.due("part(0, 0)", x.part(0, 0), 3);
        x.feed(0x7061727420343b3bL);
        x.end(7);
        s.due("parts()", x.parts(), 1);
        x.feed(-1);
        x.end(0);
        s.due("parts() of nothing", x.parts(), 0);
        s.says("how many it had.");
        EdgeChain y = new EdgeChain();
        s.due("end(0) of nothing", y.end(0), 0);
        y.feed(0);
        y.feed(0);
        s.due("end(16)", y.end(16), 16);
        s.due("end(15)", y.end(15), 16);
        s.due("end(1)", y.end(1), 15);
        s.due("end(0)", y.end(0), 1);
        s.says("BAD.");
        for (int n : new int[] {1, 2, 240, -1, -4, Integer.MAX_VALUE, Integer.MIN_VALUE}) {
            s.due("end(" + n + ") of nothing", y.end(n), Check.BAD);
        }
        y.feed(0);
        for (int n : new int[] {9, 10, 240, 241, -1, Integer.MAX_VALUE, Integer.MIN_VALUE}) {
            s.due("end(" + n + ") of eight", y.end(n), Check.BAD);
        }
        s.due("count(9)", y.count(9), 8);
        Check.feed(x, padded("", 240));
        s.due("end(241) of 240", x.end(241), Check.BAD);
        s.due("end(240) of 240", x.end(240), 240);
    }

    private void promiseParts() {
        s.promise(4);
        s.says("THE TAPE (empty then) tells all PARTS: how many");
        EdgeChain x = new EdgeChain();
        s.due("parts() of nothing", x.parts(), 0);
        String six = padded("part 2 id 1;part 3 id 3;part 4 id 5;part 5 id 7;part 6 id 9;part 7 id 11;", 240);
        s.due("parts() of 240 bytes", Check.tell(x, six), 6);
        s.due("count(9)", x.count(9), 0);
        s.due("parts() again", x.parts(), 0);
        s.due("count(0)", x.count(0), 0);
        s.says("-10 less the place of its FAULT");
        s.due("place 0", Check.tell(x, "?"), -10);
        s.due("count(9) behind a fault", x.count(9), 0);
        s.due("place 239", Check.tell(x, padded("", 239) + "?"), -249);
        s.due("place 240", Check.tell(x, padded("part 4", 240)), -250);
        s.due("count(9) behind a fault", x.count(9), 0);
        s.due("parts() behind a fault", x.parts(), 0);
        s.says("those that were told stay.");
        EdgeChain y = Check.board(Check.THREE);
        String told = Look.part(y, 0) + ", " + Look.part(y, 1) + ", " + Look.part(y, 2);
        String[] faulty = {"?", "part 8; x", "part 8 id 1; part 9;", "part 8 id 1 id", SIX + "part", "part 8 cells i;"};
        for (int i = 0; i < 6; i++) {
            s.due("a text with a fault", Check.tell(y, faulty[i]) <= -10 ? y.fault() : 0, i + 1);
            s.due("count(0)", y.count(0), 3);
            s.due("parts", Look.part(y, 0) + ", " + Look.part(y, 1) + ", " + Look.part(y, 2), told);
        }
        s.due("chip(2)", y.chip(2), 0);
        s.says("STATE (THE TAPE stays): there are CHIPS.");
        s.due("parts() of nothing", y.parts(), Check.STATE);
        for (String text : new String[] {"part 8;", "?"}) {
            Check.feed(y, text);
            int had = y.count(9);
            s.due("parts()", y.parts(), Check.STATE);
            s.due("count(9)", y.count(9), had);
        }
        s.due("parts", Look.part(y, 0) + ", " + Look.part(y, 1) + ", " + Look.part(y, 2), told);
    }

    private void promiseFault() {
        s.promise(5);
        s.says("The FAULT of the latest parts() that was not STATE");
        EdgeChain x = new EdgeChain();
        String[] faulty = {"?", "x", "part 9;", "part 8 id 1 id", SIX + "part", "part 8 cells i;"};
        for (int i = 0; i < 6; i++) {
            Check.tell(x, faulty[i]);
            s.due("fault()", x.fault(), i + 1);
            s.due("fault() again", x.fault(), i + 1);
            Check.feed(x, "part 2;");
            s.due("fault() until parts()", x.fault(), i + 1);
            x.parts();
            s.due("fault() of a text that is taken", x.fault(), 0);
        }
        Check.tell(x, "part 9;");
        x.chip(0);
        Check.feed(x, "?");
        s.due("parts()", x.parts(), Check.STATE);
        s.due("fault() behind STATE", x.fault(), 3);
        s.says("0.");
        EdgeChain y = new EdgeChain();
        s.due("fault() at first", y.fault(), 0);
        y.parts();
        s.due("fault() of an empty text", y.fault(), 0);
        Check.tell(y, "part 2;");
        y.chip(0);
        Check.tell(y, "?");
        s.due("fault() behind STATE", y.fault(), 0);
    }

    private void promisePart() {
        s.promise(6);
        EdgeChain x = Check.board("part 8 id 999999999 sample 254 extest 0 cells oooooooooo;part 2;part 3 extest 6 cells i;part 2 id 1;");
        int[][] due = {{8, 999999999, 254, 0, 10, 10}, {2, -4, -4, -4, 0, 0}, {3, -4, -4, 6, 1, 0}, {2, 1, -4, -4, 0, 0}};
        String[] words = {"Of a PART: 0 LENGTH", "1 IDENTITY (NONE)", "2 the CODE of SAMPLE (NONE)", "3 that of EXTEST (NONE)", "4 CELLS",
            "5 out ones"};
        for (int what = 0; what < 6; what++) {
            s.says(words[what]);
            for (int p = 0; p < 4; p++) {
                s.due("part(" + p + ", " + what + ")", x.part(p, what), due[p][what]);
            }
        }
        s.says("10 and i: whether CELL i is out.");
        for (int i = 0; i < 10; i++) {
            s.due("part(0, " + (10 + i) + ")", x.part(0, 10 + i), 1);
        }
        s.due("part(2, 10)", x.part(2, 10), 0);
        EdgeChain y = Check.board("part 2 extest 0 cells iooi;");
        for (int i = 0; i < 4; i++) {
            s.due("part(0, " + (10 + i) + ")", y.part(0, 10 + i), i == 1 || i == 2 ? 1 : 0);
        }
        s.says("BAD.");
        for (int p : new int[] {-1, 4, 5, 6, -4, Integer.MAX_VALUE, Integer.MIN_VALUE}) {
            s.due("part(" + p + ", 0)", x.part(p, 0), Check.BAD);
        }
        for (int what : new int[] {-1, 6, 7, 8, 9, 20, 21, -4, Integer.MAX_VALUE, Integer.MIN_VALUE, Integer.MIN_VALUE + 10}) {
            s.due("part(0, " + what + ")", x.part(0, what), Check.BAD);
        }
        s.due("part(2, 11): no such CELL", x.part(2, 11), Check.BAD);
        s.due("part(1, 10): no CELLS", x.part(1, 10), Check.BAD);
        s.due("part(0, 0) of no PARTS", new EdgeChain().part(0, 0), Check.BAD);
    }
}
