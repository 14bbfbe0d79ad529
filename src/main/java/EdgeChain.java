import java.util.Arrays;

/**
 * A board told through its edge: parts read from a text, chips in a chain led by ticks, nets between their
 * feet, tests of the nets and the faults that explain what they answer. DOC.md has the promises.
 */
public final class EdgeChain {
    public static final int BAD = -1, STATE = -2, FULL = -3, NONE = -4;

    private static final int TAPE_BYTES = 240;
    private static final int MAX_PARTS = 6, MAX_CHIPS = 6, MAX_CELLS = 10, MAX_NETS = 8, MAX_SHEETS = 4;
    private static final int MAX_SHEET_CELLS = 100, MAX_SCAN = 99, LANES = 3, SORTS = 3;
    /** Every answer that tells a place or a fault of a sheet counts down from here. */
    private static final int FAULT_BASE = -10;

    private static final int BYPASS = 0, IDENTITY = 1, SAMPLE = 2, EXTEST = 3;

    private static final int STATES = 16;
    private static final int RESET = 0, IDLE = 1, CAPTURE_DATA = 3, SHIFT_DATA = 4, EXIT_DATA = 5, UPDATE_DATA = 8;
    private static final int CAPTURE_ORDERS = 10, SHIFT_ORDERS = 11, EXIT_ORDERS = 12, UPDATE_ORDERS = 15;
    private static final int[] AFTER_0 = {1, 1, 3, 4, 4, 6, 6, 4, 1, 10, 11, 11, 13, 13, 11, 1};
    private static final int[] AFTER_1 = {0, 2, 9, 5, 5, 8, 7, 8, 2, 0, 12, 12, 15, 14, 15, 2};

    private static final int NULL_FAULT = 1, INDEX_FAULT = 2, CAST_FAULT = 3, SIZE_FAULT = 4;

    private final Tape tape = new Tape();
    private final Reader reader = new Reader(tape);
    private final Part[] partList = new Part[MAX_PARTS];
    private int partCount;
    private final Nets nets = new Nets();
    private final Chain chain = new Chain(nets);
    private final Probe probe = new Probe(chain);
    private final Trial trial = new Trial(nets);
    private final Sheet[] sheets = new Sheet[MAX_SHEETS];

    public EdgeChain() {
        for (int i = 0; i < MAX_PARTS; i++) {
            partList[i] = new Part();
        }
        for (int i = 0; i < MAX_SHEETS; i++) {
            sheets[i] = new Sheet();
        }
    }

    // ---- parts, chips

    public int feed(long v) {
        return tape.append(v) ? tape.size : FULL;
    }

    public int end(int n) {
        if (n < 0 || n > tape.size) {
            return BAD;
        }
        int had = tape.size;
        tape.size = n;
        return had;
    }

    public int parts() {
        if (chain.size > 0) {
            return STATE;
        }
        boolean taken = reader.readText();
        tape.size = 0;
        if (!taken) {
            return FAULT_BASE - reader.faultPlace;
        }
        partCount = reader.told;
        for (int i = 0; i < partCount; i++) {
            partList[i].become(reader.list[i]);
        }
        return partCount;
    }

    public int fault() {
        return reader.faultKind;
    }

    public int part(int p, int what) {
        if (p < 0 || p >= partCount) {
            return BAD;
        }
        Part part = partList[p];
        switch (what) {
            case 0: return part.length;
            case 1: return part.identity;
            case 2: return part.sample;
            case 3: return part.extest;
            case 4: return part.cells;
            case 5: return Integer.bitCount(part.outs);
            default: return what >= 10 && what - 10 < part.cells ? bit(part.outs, what - 10) : BAD;
        }
    }

    public int chip(int part) {
        if (part < 0 || part >= partCount) {
            return BAD;
        }
        if (chain.state != RESET) {
            return STATE;
        }
        return chain.append(part, partList[part]);
    }

    public int chipOf(int c, int what) {
        if (!chain.has(c)) {
            return BAD;
        }
        Chip chip = chain.chips[c];
        switch (what) {
            case 0: return chip.partNumber;
            case 1: return chip.order;
            case 2: return chip.orderRegister;
            case 3: return chip.registers[chip.registerPlace()];
            case 4: return chip.latches;
            case 5: return chip.feet(nets.levels(chain.ownLevels()));
            default: return BAD;
        }
    }

    public int cut(int c, int v) {
        if (c < 0 || c > chain.size || !isLevelOrNone(v)) {
            return BAD;
        }
        int was = chain.cuts[c];
        chain.cuts[c] = v;
        return was;
    }

    // ---- ticks

    public int tick(boolean m, boolean d) {
        return chain.size == 0 ? STATE : chain.step(m, d);
    }

    public int ticks(int n, int ms, int ds) {
        if (n < 1 || n > 31) {
            return BAD;
        }
        if (chain.size == 0) {
            return STATE;
        }
        int out = 0;
        for (int i = 0; i < n; i++) {
            if (chain.step(bit(ms, i) == 1, bit(ds, i) == 1) == 1) {
                out |= 1 << i;
            }
        }
        return out;
    }

    public int now(int what) {
        switch (what) {
            case 0: return chain.state;
            case 1: return chain.elapsed;
            default: return BAD;
        }
    }

    public int path(int a, int b, int what) {
        if (!isState(a) || !isState(b) || what < 0 || what > 1) {
            return BAD;
        }
        chain.paths.aim(b);
        return what == 0 ? chain.paths.far[a] : chain.paths.turns[a];
    }

    public int go(int b) {
        if (!isState(b)) {
            return BAD;
        }
        return chain.size == 0 ? STATE : chain.walk(b);
    }

    public int scan(boolean orders, int k, int lane, int f, int n) {
        if (n < 1 || n > MAX_SCAN || !isSheet(k) || !isLane(lane)) {
            return BAD;
        }
        if (chain.size == 0) {
            return STATE;
        }
        int wrong = sheets[k].faultOf(lane, f, n);
        return wrong != 0 ? FAULT_BASE - wrong : chain.shiftRow(orders, sheets[k].cells, f, n);
    }

    public int log(int i) {
        if (i < 0) {
            return BAD;
        }
        return i < chain.logged ? chain.logBits[i] : NONE;
    }

    public int found() {
        return chain.size == 0 ? STATE : probe.countChips();
    }

    public long identity(int i) {
        if (i != NONE && (i < 0 || i >= Probe.MOST)) {
            return BAD;
        }
        if (chain.size == 0) {
            return STATE;
        }
        probe.readIdentities();
        if (i == NONE) {
            return probe.seen;
        }
        return i < probe.seen ? probe.identities[i] : NONE;
    }

    public int broken() {
        return chain.size == 0 ? STATE : probe.lastSilentChip();
    }

    // ---- nets

    public int net() {
        return nets.append();
    }

    public int join(int net, int chip, int cell) {
        if (!nets.has(net) || !chain.hasFoot(chip, cell)) {
            return BAD;
        }
        if (chain.chips[chip].netAt[cell] != NONE) {
            return STATE;
        }
        chain.chips[chip].netAt[cell] = net;
        nets.feet[net]++;
        return nets.feet[net];
    }

    public int stick(int net, int v) {
        if (!nets.has(net) || !isLevelOrNone(v)) {
            return BAD;
        }
        int was = nets.stuck[net];
        nets.stuck[net] = v;
        nets.regroup();
        return was;
    }

    public int bridge(int a, int b, int kind) {
        if (!nets.has(a) || !nets.has(b) || a == b || !isLevelOrNone(kind)) {
            return BAD;
        }
        int was = nets.shorts[a][b];
        nets.shorts[a][b] = kind;
        nets.shorts[b][a] = kind;
        nets.regroup();
        return was;
    }

    public int open(int chip, int cell, boolean is) {
        if (!chain.hasFoot(chip, cell)) {
            return BAD;
        }
        Chip of = chain.chips[chip];
        int was = bit(of.opens, cell);
        of.opens = is ? of.opens | 1 << cell : of.opens & ~(1 << cell);
        return was;
    }

    public int netOf(int net, int what) {
        if (!nets.has(net)) {
            return BAD;
        }
        switch (what) {
            case 0: return bit(nets.levels(chain.ownLevels()), net);
            case 1: return bit(chain.ownLevels(), net);
            case 2: return nets.feet[net];
            case 3: return nets.leastOf(net);
            default: return BAD;
        }
    }

    // ---- tests

    public int rows(int sort) {
        if (!isSort(sort)) {
            return BAD;
        }
        return nets.size == 0 ? STATE : trial.rowCount(sort);
    }

    public int word(int sort, int net, int what) {
        if (!isSort(sort) || !nets.has(net) || what < 0 || what > 1) {
            return BAD;
        }
        trial.prepare(sort);
        return trial.column(what == 0 ? trial.testRows : trial.boardRows, net);
    }

    public int answer(int sort, int net, int f, int g) {
        if (!isSort(sort) || !nets.has(net)) {
            return BAD;
        }
        trial.prepare(sort);
        if (!trial.isGuess(f, g)) {
            return BAD;
        }
        return trial.answerOf(net, trial.groupOf(f), trial.groupOf(g));
    }

    public int likely(int sort, int what) {
        if (!isSort(sort) || what < 0 || what > 1 && what < 10000) {
            return BAD;
        }
        if (nets.size == 0) {
            return what <= 1 ? STATE : BAD;
        }
        trial.prepare(sort);
        trial.seekLikely();
        if (what == 0) {
            return trial.guesses == 0 ? NONE : trial.faultsEach;
        }
        if (what == 1) {
            return trial.guesses;
        }
        boolean second = what >= 20000;
        int i = what - (second ? 20000 : 10000);
        if (i >= trial.guesses) {
            return BAD;
        }
        return second ? trial.secondFaults[i] : trial.firstFaults[i];
    }

    public int blind(int sort, int what) {
        if (!isSort(sort) || what < 0 || what > 2) {
            return BAD;
        }
        if (nets.size == 0) {
            return STATE;
        }
        trial.prepare(sort);
        trial.signFaults();
        switch (what) {
            case 0: return trial.unseenFaults();
            case 1: return trial.alikePairs();
            default: return trial.firstUnseenFault();
        }
    }

    public int next(int sort, int what) {
        if (!isSort(sort) || what < 0 || what > 1) {
            return BAD;
        }
        if (nets.size == 0) {
            return STATE;
        }
        trial.prepare(sort);
        trial.seekLikely();
        if (trial.guesses == 0) {
            return NONE;
        }
        trial.seekPartingRow();
        return what == 0 ? trial.partingRow : trial.partingHeap;
    }

    public int cost(int sort) {
        if (!isSort(sort)) {
            return BAD;
        }
        if (chain.size == 0 || nets.size == 0) {
            return STATE;
        }
        int orders = chain.scanTicks(true, chain.orderBits());
        int data = chain.scanTicks(false, chain.testBits());
        return orders + (trial.rowCount(sort) + 1) * data;
    }

    // ---- sheets

    public int sheet(int k, int lane, int n) {
        if (!isSheet(k) || !isLane(lane) || n > MAX_SHEET_CELLS) {
            return BAD;
        }
        if (n < 0) {
            return FAULT_BASE - SIZE_FAULT;
        }
        sheets[k].renew(lane, n);
        return 1;
    }

    public int lay(int k, int i, int v) {
        if (!isSheet(k)) {
            return BAD;
        }
        Sheet sheet = sheets[k];
        int wrong = sheet.faultOf(sheet.lane, i, 1);
        if (wrong != 0) {
            return FAULT_BASE - wrong;
        }
        sheet.cells[i] = v;
        return 1;
    }

    public int count(int what) {
        switch (what) {
            case 0: return partCount;
            case 1: return chain.size;
            case 2: return chain.orderBits();
            case 3: return chain.cellCount();
            case 4: return nets.size;
            case 5: return nets.shortCount();
            case 6: return nets.stuckCount();
            case 7: return chain.openCount();
            case 8: return chain.logged;
            case 9: return tape.size;
            case 10: return sheets[0].lane == NONE ? NONE : sheets[0].size;
            default: return BAD;
        }
    }

    private static int bit(int bits, int i) {
        return bits >>> i & 1;
    }

    private static boolean isLevelOrNone(int v) {
        return v == 0 || v == 1 || v == NONE;
    }

    private static boolean isState(int s) {
        return s >= 0 && s < STATES;
    }

    private static boolean isSort(int sort) {
        return sort >= 0 && sort < SORTS;
    }

    private static boolean isSheet(int k) {
        return k >= 0 && k < MAX_SHEETS;
    }

    private static boolean isLane(int lane) {
        return lane >= 0 && lane < LANES;
    }

    /** The bytes that wait to be read as a text. */
    private static final class Tape {
        final byte[] bytes = new byte[TAPE_BYTES];
        int size;

        boolean append(long eight) {
            if (size + 8 > TAPE_BYTES) {
                return false;
            }
            for (int i = 0; i < 8; i++) {
                bytes[size + i] = (byte) (eight >>> (56 - 8 * i));
            }
            size += 8;
            return true;
        }
    }

    /** What the text tells of a kind of chip; what it does not tell is NONE. */
    private static final class Part {
        int length, cells;
        int identity = NONE, sample = NONE, extest = NONE;
        /** Bit i: cell i is an out cell. */
        int outs;

        void clear() {
            length = 0;
            cells = 0;
            identity = NONE;
            sample = NONE;
            extest = NONE;
            outs = 0;
        }

        void become(Part other) {
            length = other.length;
            cells = other.cells;
            identity = other.identity;
            sample = other.sample;
            extest = other.extest;
            outs = other.outs;
        }

        /** An order without cells would have a register of no length; cells without extest would drive nothing. */
        boolean isWhole() {
            return cells > 0 ? extest != NONE : sample == NONE && extest == NONE;
        }

        int orderOf(int code) {
            if (code == sample) {
                return SAMPLE;
            }
            if (code == extest) {
                return EXTEST;
            }
            return identity != NONE && code == (1 << length) - 2 ? IDENTITY : BYPASS;
        }

        int firstOrder() {
            return identity != NONE ? IDENTITY : BYPASS;
        }
    }

    /** Reads the tape into a list of its own, so that a text with a fault leaves the old parts alone. */
    private static final class Reader {
        static final int END = 0, NAME = 1, NUMBER = 2, SEMICOLON = 3;
        static final int NO_TOKEN = 1, MISPLACED = 2, NOT_ALLOWED = 3, REPEATED = 4, TOO_MANY = 5, NOT_WHOLE = 6;
        static final int MAX_FIGURES = 9, GREATEST_NUMBER = 999999999;

        final Tape tape;
        final Part[] list = new Part[MAX_PARTS];
        int told;
        int faultKind, faultPlace;
        /** The token: its kind, its first byte, the byte behind it, and its value if it is a number. */
        int kind, first, behind, value;

        Reader(Tape from) {
            tape = from;
            for (int i = 0; i < MAX_PARTS; i++) {
                list[i] = new Part();
            }
        }

        /** Whether the text was taken; if not, faultKind and faultPlace say why. */
        boolean readText() {
            told = 0;
            behind = 0;
            faultKind = 0;
            faultPlace = 0;
            for (int i = 0; i < TAPE_BYTES; i++) {
                if (!take()) {
                    return false;
                }
                if (kind == END) {
                    return true;
                }
                if (!isName("part")) {
                    return refuse(MISPLACED);
                }
                if (told >= MAX_PARTS) {
                    return refuse(TOO_MANY);
                }
                if (!readPart(list[told])) {
                    return false;
                }
                told++;
            }
            return true;
        }

        boolean readPart(Part part) {
            part.clear();
            if (!takeNumber(2, 8)) {
                return false;
            }
            part.length = value;
            for (int i = 0; i < TAPE_BYTES; i++) {
                if (!take()) {
                    return false;
                }
                if (kind == SEMICOLON) {
                    return part.isWhole() || refuse(NOT_WHOLE);
                }
                if (!readItem(part)) {
                    return false;
                }
            }
            return false;
        }

        boolean readItem(Part part) {
            if (isName("id")) {
                return isNew(part.identity == NONE) && takeNumber(0, GREATEST_NUMBER) && putIdentity(part);
            }
            if (isName("sample")) {
                return isNew(part.sample == NONE) && takeNumber(0, greatestCode(part)) && putSample(part);
            }
            if (isName("extest")) {
                return isNew(part.extest == NONE) && takeNumber(0, greatestCode(part)) && putExtest(part);
            }
            if (isName("cells")) {
                return isNew(part.cells == 0) && takeName() && putCells(part);
            }
            return refuse(MISPLACED);
        }

        boolean isNew(boolean untold) {
            return untold || refuse(REPEATED);
        }

        /** All ones is left out, for that code is bypass in every part. */
        static int greatestCode(Part part) {
            return (1 << part.length) - 2;
        }

        boolean putIdentity(Part part) {
            part.identity = value;
            return (value & 1) == 1 || refuse(NOT_ALLOWED);
        }

        boolean putSample(Part part) {
            part.sample = value;
            return value != part.extest || refuse(REPEATED);
        }

        boolean putExtest(Part part) {
            part.extest = value;
            return value != part.sample || refuse(REPEATED);
        }

        boolean putCells(Part part) {
            part.cells = behind - first;
            if (part.cells > MAX_CELLS) {
                return refuse(NOT_ALLOWED);
            }
            for (int i = 0; i < part.cells; i++) {
                byte letter = tape.bytes[first + i];
                if (letter == 'o') {
                    part.outs |= 1 << i;
                } else if (letter != 'i') {
                    return refuse(NOT_ALLOWED);
                }
            }
            return true;
        }

        boolean takeName() {
            return take() && (kind == NAME || refuse(MISPLACED));
        }

        boolean takeNumber(int least, int most) {
            if (!take()) {
                return false;
            }
            if (kind != NUMBER) {
                return refuse(MISPLACED);
            }
            value = 0;
            for (int i = first; i < behind; i++) {
                value = value * 10 + (tape.bytes[i] - '0');
            }
            return value >= least && value <= most || refuse(NOT_ALLOWED);
        }

        /** Reads the next token, or the end; false where neither begins. */
        boolean take() {
            skip(' ', ' ');
            first = behind;
            if (first >= tape.size) {
                kind = END;
                return true;
            }
            if (tape.bytes[first] == ';') {
                kind = SEMICOLON;
                behind = first + 1;
                return true;
            }
            skip('a', 'z');
            if (behind > first) {
                kind = NAME;
                return true;
            }
            skip('0', '9');
            kind = NUMBER;
            return behind > first && behind - first <= MAX_FIGURES || refuse(NO_TOKEN);
        }

        void skip(int least, int most) {
            while (behind < tape.size && tape.bytes[behind] >= least && tape.bytes[behind] <= most) {
                behind++;
            }
        }

        boolean refuse(int fault) {
            faultKind = fault;
            faultPlace = first;
            return false;
        }

        boolean isName(String name) {
            if (kind != NAME || behind - first != name.length()) {
                return false;
            }
            for (int i = 0; i < name.length(); i++) {
                if (tape.bytes[first + i] != name.charAt(i)) {
                    return false;
                }
            }
            return true;
        }
    }

    /** A chip: its order, its registers, and what hangs at its feet. */
    private static final class Chip {
        int partNumber;
        Part part;
        int order, orderRegister, latches;
        /** The registers of bypass, of identity and of cells. */
        final int[] registers = new int[SAMPLE + 1];
        /** Bit i: the foot of cell i is open. */
        int opens;
        final int[] netAt = new int[MAX_CELLS];

        Chip(Part stand) {
            part = stand;
            Arrays.fill(netAt, NONE);
        }

        void become(int number, Part of) {
            partNumber = number;
            part = of;
            order = of.firstOrder();
        }

        /** What a state does that does not shift; levels matter for CAPTURE DATA alone. */
        void act(int state, int levels) {
            switch (state) {
                case RESET: order = part.firstOrder(); break;
                case CAPTURE_ORDERS: orderRegister = 1; break;
                case UPDATE_ORDERS: order = part.orderOf(orderRegister); break;
                case CAPTURE_DATA: registers[registerPlace()] = hasCells() ? feet(levels) : constant(); break;
                case UPDATE_DATA: latches = hasCells() ? registers[SAMPLE] & part.outs : latches; break;
                default: break;
            }
        }

        boolean hasCells() {
            return order == SAMPLE || order == EXTEST;
        }

        /** Sample and extest share the register of the cells. */
        int registerPlace() {
            return order < SAMPLE ? order : SAMPLE;
        }

        int registerLength() {
            if (order == BYPASS) {
                return 1;
            }
            return order == IDENTITY ? 32 : part.cells;
        }

        /** What an order without cells captures. */
        int constant() {
            return order == IDENTITY ? part.identity : 0;
        }

        int shiftData(int in) {
            int place = registerPlace();
            int left = registers[place] & 1;
            registers[place] = shifted(registers[place], registerLength(), in);
            return left;
        }

        int shiftOrders(int in) {
            int left = orderRegister & 1;
            orderRegister = shifted(orderRegister, part.length, in);
            return left;
        }

        static int shifted(int bits, int length, int in) {
            return bits >>> 1 | in << (length - 1);
        }

        /** Bits of cells: the out cells that drive 1. */
        int driven() {
            return order == EXTEST ? latches & ~opens : 0;
        }

        /** Bits of nets: those that a foot of this chip drives to 0. */
        int lowered() {
            int low = part.outs & ~opens & ~driven();
            int lowNets = 0;
            for (int i = 0; i < MAX_CELLS; i++) {
                if (bit(low, i) == 1 && netAt[i] != NONE) {
                    lowNets |= 1 << netAt[i];
                }
            }
            return lowNets;
        }

        /** Bits of cells: what stands at each foot. */
        int feet(int levels) {
            int high = opens;
            for (int i = 0; i < MAX_CELLS; i++) {
                if (netAt[i] == NONE || bit(levels, netAt[i]) == 1) {
                    high |= 1 << i;
                }
            }
            int ins = (1 << part.cells) - 1 & ~part.outs;
            return driven() | high & ins;
        }
    }

    /** The shortest ways of all states to one of them. */
    private static final class Paths {
        static final int NO_WAY = 1 << STATES;

        final int[] far = new int[STATES];
        /** The M of each tick of the way, the first one lowest. */
        final int[] turns = new int[STATES];

        void aim(int target) {
            Arrays.fill(far, NONE);
            Arrays.fill(turns, 0);
            far[target] = 0;
            for (int distance = 1; distance < STATES; distance++) {
                for (int s = 0; s < STATES; s++) {
                    if (far[s] == NONE) {
                        extend(s, distance);
                    }
                }
            }
        }

        /** The least number of a way is the least one of its rest, twice, and its own turn. */
        void extend(int s, int distance) {
            int by0 = far[AFTER_0[s]] == distance - 1 ? 2 * turns[AFTER_0[s]] : NO_WAY;
            int by1 = far[AFTER_1[s]] == distance - 1 ? 2 * turns[AFTER_1[s]] + 1 : NO_WAY;
            int least = Math.min(by0, by1);
            if (least < NO_WAY) {
                far[s] = distance;
                turns[s] = least;
            }
        }
    }

    /** The chips in their chain, and the state that they all share. */
    private static final class Chain {
        final Nets nets;
        final Paths paths = new Paths();
        final Chip[] chips = new Chip[MAX_CHIPS];
        int size;
        /** The wire ahead of each chip, and at place size the one behind the last. */
        final int[] cuts = new int[MAX_CHIPS + 1];
        int state = RESET;
        int elapsed;
        final int[] logBits = new int[MAX_SCAN];
        int logged;

        Chain(Nets between) {
            nets = between;
            Part stand = new Part();
            for (int i = 0; i < MAX_CHIPS; i++) {
                chips[i] = new Chip(stand);
            }
            Arrays.fill(cuts, NONE);
        }

        boolean has(int c) {
            return c >= 0 && c < size;
        }

        boolean hasFoot(int c, int cell) {
            return has(c) && cell >= 0 && cell < chips[c].part.cells;
        }

        int append(int partNumber, Part part) {
            if (size >= MAX_CHIPS) {
                return FULL;
            }
            chips[size].become(partNumber, part);
            size++;
            return size - 1;
        }

        /** One tick: what leaves the chain, NONE where nothing is shifted. */
        int step(boolean m, boolean d) {
            int left = NONE;
            if (state == SHIFT_DATA || state == SHIFT_ORDERS) {
                left = shiftAll(d ? 1 : 0);
            } else {
                int levels = state == CAPTURE_DATA ? nets.levels(ownLevels()) : 0;
                for (int c = 0; c < size; c++) {
                    chips[c].act(state, levels);
                }
            }
            state = m ? AFTER_1[state] : AFTER_0[state];
            elapsed++;
            return left;
        }

        int shiftAll(int in) {
            int carried = in;
            for (int c = 0; c < size; c++) {
                int comes = behindWire(c, carried);
                carried = state == SHIFT_ORDERS ? chips[c].shiftOrders(comes) : chips[c].shiftData(comes);
            }
            return behindWire(size, carried);
        }

        int behindWire(int c, int carried) {
            return cuts[c] == NONE ? carried : cuts[c];
        }

        /** Bits of nets: the least of what the feet on each drive. */
        int ownLevels() {
            int own = (1 << MAX_NETS) - 1;
            for (int c = 0; c < size; c++) {
                own &= ~chips[c].lowered();
            }
            return own;
        }

        int walk(int target) {
            paths.aim(target);
            int far = paths.far[state];
            int turns = paths.turns[state];
            for (int i = 0; i < far; i++) {
                step(bit(turns, i) == 1, true);
            }
            return far;
        }

        /** The caller has looked at n and at every cell. */
        int shiftRow(boolean orders, int[] cells, int from, int n) {
            int before = elapsed;
            walk(orders ? SHIFT_ORDERS : SHIFT_DATA);
            for (int i = 0; i < n; i++) {
                logBits[i] = step(i == n - 1, bit(cells[from + i], 0) == 1);
            }
            logged = n;
            walk(IDLE);
            return elapsed - before;
        }

        /** What shiftRow() takes from IDLE on. */
        int scanTicks(boolean orders, int n) {
            paths.aim(orders ? SHIFT_ORDERS : SHIFT_DATA);
            int there = paths.far[IDLE];
            paths.aim(IDLE);
            return there + n + paths.far[orders ? EXIT_ORDERS : EXIT_DATA];
        }

        int orderBits() {
            int sum = 0;
            for (int c = 0; c < size; c++) {
                sum += chips[c].part.length;
            }
            return sum;
        }

        int cellCount() {
            int sum = 0;
            for (int c = 0; c < size; c++) {
                sum += chips[c].part.cells;
            }
            return sum;
        }

        /** The data bits of all chips while those that can are in extest and the others in bypass. */
        int testBits() {
            int sum = 0;
            for (int c = 0; c < size; c++) {
                sum += chips[c].part.extest != NONE ? chips[c].part.cells : 1;
            }
            return sum;
        }

        int openCount() {
            int sum = 0;
            for (int c = 0; c < size; c++) {
                sum += Integer.bitCount(chips[c].opens);
            }
            return sum;
        }
    }

    /** Asks the chain by ticks alone; but for the lengths of broken() it looks at nothing but what leaves. */
    private static final class Probe {
        static final int MOST = 8;
        static final int RESETTING = 5, FLUSH = 64, WAIT = 20;

        final Chain chain;
        final int[] identities = new int[MOST];
        int seen;

        Probe(Chain asked) {
            chain = asked;
        }

        void resetAll() {
            for (int i = 0; i < RESETTING; i++) {
                chain.step(true, true);
            }
        }

        int countChips() {
            resetAll();
            chain.walk(SHIFT_ORDERS);
            for (int i = 0; i < FLUSH; i++) {
                chain.step(i == FLUSH - 1, true);
            }
            chain.walk(SHIFT_DATA);
            int left = 0;
            for (int i = 0; i < WAIT; i++) {
                left = chain.step(false, false);
            }
            if (left == 1) {
                return NONE;
            }
            for (int i = 0; i < WAIT; i++) {
                if (chain.step(false, true) == 1) {
                    return i;
                }
            }
            return NONE;
        }

        void readIdentities() {
            resetAll();
            chain.walk(SHIFT_DATA);
            seen = 0;
            for (int i = 0; i < MOST; i++) {
                int value = chain.step(false, true) == 1 ? restOfIdentity() : 0;
                if (value == -1) {
                    return;
                }
                identities[i] = value;
                seen++;
            }
        }

        int restOfIdentity() {
            int value = 1;
            for (int i = 1; i < 32; i++) {
                value |= chain.step(false, true) << i;
            }
            return value;
        }

        int lastSilentChip() {
            resetAll();
            chain.walk(SHIFT_ORDERS);
            int silent = NONE;
            for (int c = chain.size - 1; c >= 0; c--) {
                int came = 0;
                int length = chain.chips[c].part.length;
                for (int i = 0; i < length; i++) {
                    came |= chain.step(false, true) << i;
                }
                if (came != 1 && silent == NONE) {
                    silent = c;
                }
            }
            return silent;
        }
    }

    /** The nets, and how they hang together. */
    private static final class Nets {
        int size;
        final int[] feet = new int[MAX_NETS];
        final int[] stuck = new int[MAX_NETS];
        /** The kind of the short between two nets; both halves are kept alike. */
        final int[][] shorts = new int[MAX_NETS][MAX_NETS];
        /** Bits of nets: those that hang together with each. */
        final int[] together = new int[MAX_NETS];
        /** A group for each heap of nets, at the place of its least net; empty ones between. */
        final int[] groups = new int[MAX_NETS];

        Nets() {
            Arrays.fill(stuck, NONE);
            for (int i = 0; i < MAX_NETS; i++) {
                Arrays.fill(shorts[i], NONE);
            }
        }

        boolean has(int net) {
            return net >= 0 && net < size;
        }

        int append() {
            if (size >= MAX_NETS) {
                return FULL;
            }
            size++;
            regroup();
            return size - 1;
        }

        int levels(int own) {
            int levels = own;
            for (int i = 0; i < size; i++) {
                levels = Group.settle(levels, groups[i]);
            }
            return levels;
        }

        int leastOf(int net) {
            for (int i = 0; i < net; i++) {
                if (bit(together[net], i) == 1) {
                    return i;
                }
            }
            return net;
        }

        void regroup() {
            for (int i = 0; i < size; i++) {
                together[i] = 1 << i;
            }
            for (int a = 0; a < size; a++) {
                for (int b = a + 1; b < size; b++) {
                    if (shorts[a][b] != NONE) {
                        unite(together[a] | together[b]);
                    }
                }
            }
            for (int i = 0; i < size; i++) {
                groups[i] = leastOf(i) == i ? Group.of(together[i], ruleOf(together[i])) : Group.EMPTY;
            }
        }

        void unite(int all) {
            for (int i = 0; i < size; i++) {
                if (bit(all, i) == 1) {
                    together[i] = all;
                }
            }
        }

        int ruleOf(int all) {
            int rule = Group.GREATEST;
            for (int a = 0; a < size; a++) {
                if (bit(all, a) == 1) {
                    if (stuck[a] != NONE) {
                        return stuck[a] == 0 ? Group.LOW : Group.HIGH;
                    }
                    if (hasLeastShort(a)) {
                        rule = Group.LEAST;
                    }
                }
            }
            return rule;
        }

        boolean hasLeastShort(int a) {
            for (int b = 0; b < size; b++) {
                if (shorts[a][b] == 0) {
                    return true;
                }
            }
            return false;
        }

        int shortCount() {
            int sum = 0;
            for (int a = 0; a < size; a++) {
                for (int b = a + 1; b < size; b++) {
                    sum += shorts[a][b] != NONE ? 1 : 0;
                }
            }
            return sum;
        }

        int stuckCount() {
            int sum = 0;
            for (int i = 0; i < size; i++) {
                sum += stuck[i] != NONE ? 1 : 0;
            }
            return sum;
        }
    }

    /**
     * A heap of nets that share one level, held in an int: bits of nets, and above them the rule of that level.
     * The rules are numbered so that of two faults on one heap the lesser rule holds: a stuck net beats a
     * short, stuck at 0 beats stuck at 1, and a short of kind 0 beats one of kind 1.
     */
    private static final class Group {
        static final int LOW = 0, HIGH = 1, LEAST = 2, GREATEST = 3;
        static final int EMPTY = 0;
        static final int MASK = (1 << MAX_NETS) - 1;

        static int of(int nets, int rule) {
            return nets | rule << MAX_NETS;
        }

        static int settle(int levels, int group) {
            int nets = group & MASK;
            int rule = group >> MAX_NETS;
            int high = levels & nets;
            boolean up = rule == HIGH || rule == LEAST && high == nets || rule == GREATEST && high != 0;
            return up ? levels | nets : levels & ~nets;
        }

        static boolean meet(int a, int b) {
            return (a & b & MASK) != 0;
        }

        static int united(int a, int b) {
            return of((a | b) & MASK, Math.min(a >> MAX_NETS, b >> MAX_NETS));
        }
    }

    /** A test of all nets, the faults that could be, and the guesses that explain what the board answers. */
    private static final class Trial {
        static final int COUNTING = 0, TWICE = 1;
        static final int MAX_ROWS = 8;
        static final int MAX_FAULTS = 2 * MAX_NETS + MAX_NETS * (MAX_NETS - 1);
        static final int MAX_GUESSES = MAX_FAULTS * (MAX_FAULTS - 1) / 2;

        final Nets nets;
        int rowsNow;
        /** Rows as bits of nets: as the test has them, and as the board answers. */
        final int[] testRows = new int[MAX_ROWS], boardRows = new int[MAX_ROWS];
        int faults;
        final int[] faultGroups = new int[MAX_FAULTS];
        final long[] signs = new long[MAX_FAULTS];
        long soundSign;
        int guesses, faultsEach;
        final int[] firstFaults = new int[MAX_GUESSES], secondFaults = new int[MAX_GUESSES];
        final int[] firstGroups = new int[MAX_GUESSES], secondGroups = new int[MAX_GUESSES];
        final int[] heaps = new int[1 << MAX_NETS];
        int partingRow, partingHeap;

        Trial(Nets tried) {
            nets = tried;
        }

        /** Two codes, all zeros and all ones, are left out: a stuck net would answer them. */
        int width() {
            int w = 0;
            while (w < MAX_NETS && 1 << w < nets.size + 2) {
                w++;
            }
            return w;
        }

        int rowCount(int sort) {
            if (sort == COUNTING) {
                return width();
            }
            return sort == TWICE ? 2 * width() : nets.size;
        }

        void prepare(int sort) {
            rowsNow = Math.min(rowCount(sort), MAX_ROWS);
            for (int r = 0; r < rowsNow; r++) {
                testRows[r] = testRow(sort, r);
                boardRows[r] = nets.levels(testRows[r]);
            }
            listFaults();
        }

        int testRow(int sort, int r) {
            if (sort != COUNTING && sort != TWICE) {
                return 1 << r;
            }
            int w = width();
            return r < w ? countingRow(r) : ~countingRow(r - w) & (1 << nets.size) - 1;
        }

        int countingRow(int r) {
            int row = 0;
            for (int i = 0; i < nets.size; i++) {
                row |= bit(i + 1, r) << i;
            }
            return row;
        }

        void listFaults() {
            faults = 0;
            for (int i = 0; i < nets.size; i++) {
                addFault(Group.of(1 << i, Group.LOW));
                addFault(Group.of(1 << i, Group.HIGH));
            }
            for (int a = 0; a < nets.size; a++) {
                for (int b = a + 1; b < nets.size; b++) {
                    addFault(Group.of(1 << a | 1 << b, Group.LEAST));
                    addFault(Group.of(1 << a | 1 << b, Group.GREATEST));
                }
            }
        }

        void addFault(int group) {
            if (faults < MAX_FAULTS) {
                faultGroups[faults] = group;
                faults++;
            }
        }

        boolean isFault(int f) {
            return f >= 0 && f < faults;
        }

        boolean isGuess(int f, int g) {
            if (g == NONE) {
                return f == NONE || isFault(f);
            }
            return isFault(f) && isFault(g) && f != g;
        }

        int groupOf(int f) {
            return isFault(f) ? faultGroups[f] : Group.EMPTY;
        }

        int column(int[] rows, int net) {
            int bits = 0;
            for (int r = 0; r < rowsNow; r++) {
                bits |= bit(rows[r], net) << r;
            }
            return bits;
        }

        /** Faults that meet make one heap of their nets, so they can not be settled one by one. */
        static int levelsBy(int row, int a, int b) {
            if (Group.meet(a, b)) {
                return Group.settle(row, Group.united(a, b));
            }
            return Group.settle(Group.settle(row, a), b);
        }

        int answerOf(int net, int a, int b) {
            int bits = 0;
            for (int r = 0; r < rowsNow; r++) {
                bits |= bit(levelsBy(testRows[r], a, b), net) << r;
            }
            return bits;
        }

        void seekLikely() {
            guesses = 0;
            faultsEach = 0;
            tryGuess(NONE, NONE);
            if (guesses == 0) {
                faultsEach = 1;
                for (int f = 0; f < faults; f++) {
                    tryGuess(f, NONE);
                }
            }
            if (guesses == 0) {
                faultsEach = 2;
                for (int f = 0; f < faults; f++) {
                    for (int g = f + 1; g < faults; g++) {
                        tryGuess(f, g);
                    }
                }
            }
        }

        void tryGuess(int f, int g) {
            int a = groupOf(f);
            int b = groupOf(g);
            for (int r = 0; r < rowsNow; r++) {
                if (levelsBy(testRows[r], a, b) != boardRows[r]) {
                    return;
                }
            }
            if (guesses < MAX_GUESSES) {
                firstFaults[guesses] = f;
                secondFaults[guesses] = g;
                firstGroups[guesses] = a;
                secondGroups[guesses] = b;
                guesses++;
            }
        }

        /** All answers under a fault in one number, so that faults are compared at once. */
        void signFaults() {
            soundSign = signOf(Group.EMPTY);
            for (int f = 0; f < faults; f++) {
                signs[f] = signOf(faultGroups[f]);
            }
        }

        long signOf(int group) {
            long sign = 0;
            for (int r = 0; r < rowsNow; r++) {
                sign = sign << MAX_NETS | Group.settle(testRows[r], group);
            }
            return sign;
        }

        int unseenFaults() {
            int sum = 0;
            for (int f = 0; f < faults; f++) {
                sum += signs[f] == soundSign ? 1 : 0;
            }
            return sum;
        }

        int firstUnseenFault() {
            for (int f = 0; f < faults; f++) {
                if (signs[f] == soundSign) {
                    return f;
                }
            }
            return NONE;
        }

        int alikePairs() {
            int sum = 0;
            for (int f = 0; f < faults; f++) {
                for (int g = f + 1; g < faults; g++) {
                    sum += signs[f] != soundSign && signs[f] == signs[g] ? 1 : 0;
                }
            }
            return sum;
        }

        void seekPartingRow() {
            partingHeap = guesses + 1;
            partingRow = 0;
            for (int row = 0; row < 1 << nets.size; row++) {
                int heap = greatestHeap(row);
                if (heap < partingHeap) {
                    partingHeap = heap;
                    partingRow = row;
                }
            }
        }

        int greatestHeap(int row) {
            Arrays.fill(heaps, 0);
            int greatest = 0;
            for (int i = 0; i < guesses; i++) {
                int levels = levelsBy(row, firstGroups[i], secondGroups[i]) & Group.MASK;
                heaps[levels]++;
                greatest = Math.max(greatest, heaps[levels]);
            }
            return greatest;
        }
    }

    /** A row of cells; lane NONE is nothing. */
    private static final class Sheet {
        int lane = NONE;
        int size;
        /** Whatever the lane: no more than the lowest bit of a cell is ever read. */
        final int[] cells = new int[MAX_SHEET_CELLS];

        void renew(int kind, int n) {
            lane = kind;
            size = n;
            Arrays.fill(cells, 0);
        }

        /** What the machine would find if the cells from .. from + n - 1 were taken as of a lane; 0 nothing. */
        int faultOf(int asLane, int from, int n) {
            if (lane == NONE) {
                return NULL_FAULT;
            }
            if (lane != asLane) {
                return CAST_FAULT;
            }
            return from < 0 || from > size - n ? INDEX_FAULT : 0;
        }
    }
}
