import java.util.NoSuchElementException;

/** One shader's text, made ready: values, ranges, an order, registers, clauses, and what they cost. */
public final class ShaderReady {

    public static final int NONE = -1;

    private static final int NO_FACT = -2;
    private static final int NO_NUMBER = Integer.MIN_VALUE;
    private static final int NOT_RECKONED = -2;

    private static final int LANES = 4;
    private static final int CELLS = 16;
    private static final int TOP = 999;
    private static final int RULES = 4;
    private static final int FAR = 99999;

    private static final int MOST_SIGNS = 1000;
    private static final int MOST_INPUTS = 6;
    private static final int MOST_NAMES = 20;
    private static final int MOST_DEPTH = 4;
    private static final int MOST_WORKED = 200;
    private static final int MOST_SHOWN = 8;
    private static final int MOST_VALUES = 64;
    private static final int MOST_FETCH = 8;
    private static final int MOST_ALU = 16;
    private static final int MOST_TIMES = 9;
    private static final int MOST_BEST = 12;
    /** 1,000 signs hold no more than 188 lines: when f; else; end; has 16 signs, all else more a line. */
    private static final int MOST_LINES = 200;
    /** 200 worked lines, each with nine ends at most, come nowhere near it. */
    private static final int MOST_STEPS = 10000;

    private static final int ARGS = 3;
    private static final int FILES = 2;
    private static final int BOTH_FILES = 2;
    /** 64 values block 64 pairs of halves at most. */
    private static final int HALVES = 2 * MOST_VALUES + 2;

    private static final int INPUT = 0;
    private static final int NUMBER = 1;
    private static final int ADD = 2;
    private static final int SUB = 3;
    private static final int MUL = 4;
    private static final int MIN = 5;
    private static final int MAX = 6;
    private static final int TEX = 7;
    private static final int LESS = 8;
    private static final int SAME = 9;
    private static final int BOTH = 10;
    private static final int EITHER = 11;
    private static final int FLIP = 12;
    private static final int PICK = 13;
    private static final int COPY = 14;

    private static final int NUM = 0;
    private static final int FLAG = 1;
    private static final int ANY_TYPE = 2;

    /** The reserved words in the order of the numbers below; behind show come the ops from add on. */
    private static final String RESERVED_WORDS = "given lane fetch alu is when else times end show add sub mul min max tex less same both either flip pick copy ";
    private static final int RESERVED_COUNT = 23;
    private static final int WORD_GIVEN = 0;
    private static final int WORD_LANE = 1;
    private static final int WORD_FETCH = 2;
    private static final int WORD_ALU = 3;
    private static final int WORD_IS = 4;
    private static final int WORD_WHEN = 5;
    private static final int WORD_ELSE = 6;
    private static final int WORD_TIMES = 7;
    private static final int WORD_END = 8;
    private static final int WORD_SHOW = 9;
    private static final int WORD_ADD = 10;

    private static final int FAULT_STAND = 1;
    private static final int FAULT_NOT_TOLD = 2;
    private static final int FAULT_TOLD = 3;
    private static final int FAULT_NUMBER = 4;
    private static final int FAULT_MANY = 5;
    private static final int FAULT_TYPE = 6;

    private final Tape tape = new Tape();
    private final Parser parser = new Parser(tape);
    private final Worker worker = new Worker();
    private final Values values = new Values();
    private final Bench bench = new Bench();
    private final Machine machine = new Machine(bench);
    private final Facts facts = new Facts(values);
    private final Needs needs = new Needs(values, facts);
    private final Schedule schedule = new Schedule(values, facts, needs);
    private final Facts otherFacts = new Facts(values);
    private final Needs otherNeeds = new Needs(values, otherFacts);
    private final Schedule otherSchedule = new Schedule(values, otherFacts, otherNeeds);
    private final Best least = new Best(values, facts, needs);
    private Lines lines = new Lines();
    private int ruleNow = 0;
    private int bestNow = NOT_RECKONED;

    public ShaderReady() {
    }

    // ---- the tape and the shader

    public int feed(long a, long b, long c) {
        feedEight(a);
        feedEight(b);
        feedEight(c);
        return tape.length;
    }

    private void feedEight(long eight) {
        for (int shift = 56; shift >= 0; shift -= 8) {
            tape.put((int) (eight >>> shift) & 255);
        }
    }

    public int shader() {
        int fault = parser.parse();
        tape.wipe();
        if (fault == 0) {
            fault = worker.work(parser.lines);
        }
        if (fault == 0) {
            Lines before = lines;
            lines = parser.lines;
            parser.lines = before;
            values.copyFrom(worker.values);
            bench.start(lines);
            refresh();
        }
        return fault;
    }

    private void refresh() {
        facts.reckon(bench.lows, bench.highs);
        needs.reckon(NONE);
        schedule.arrange(ruleNow);
        schedule.settle(lines.fetch, lines.alu);
        bestNow = NOT_RECKONED;
    }

    // ---- what is set

    public int set(int input, int lane, int number) {
        if (!isInput(input) || !isLane(lane) || number < bench.lows[input] || number > bench.highs[input]) {
            return NONE;
        }
        int before = bench.numbers[LANES * input + lane];
        for (int l = 0; l < LANES; l++) {
            if (l == lane || lines.given[input]) {
                bench.numbers[LANES * input + l] = number;
            }
        }
        return before;
    }

    public int cell(int cell, int number) {
        if (cell < 0 || cell >= CELLS || number < 0 || number > TOP) {
            return NONE;
        }
        int before = bench.cells[cell];
        bench.cells[cell] = number;
        return before;
    }

    public int rule(int rule) {
        if (rule < 0 || rule >= RULES) {
            return NONE;
        }
        int before = ruleNow;
        ruleNow = rule;
        refresh();
        return before;
    }

    public boolean narrow(int input, int low, int high) {
        if (!isInput(input) || !isRange(low, high) || !bench.liesWithin(input, low, high)) {
            return false;
        }
        bench.lows[input] = low;
        bench.highs[input] = high;
        refresh();
        return true;
    }

    // ---- inputs and values

    public int input(int input, int what) {
        if (!isInput(input)) {
            return NONE;
        }
        switch (what) {
            case 0: return input;
            case 1: return bench.lows[input];
            case 2: return bench.highs[input];
            case 3: return lines.given[input] ? 1 : 0;
            case 4:
            case 5:
            case 6:
            case 7: return bench.numbers[LANES * input + what - 4];
            default: return NONE;
        }
    }

    public int value(int value, int what) {
        if (!isValue(value)) {
            return NO_FACT;
        }
        switch (what) {
            case 0: return values.made[value];
            case 1:
            case 2:
            case 3: return values.args[ARGS * value + what - 1];
            case 4: return values.flags[value] ? 1 : 0;
            case 5: return values.uniform[value] ? 1 : 0;
            case 6: return facts.isKnown(value) ? 1 : 0;
            case 7: return needs.isNeeded(value) ? 1 : 0;
            case 8: return needs.standsFor[value];
            case 9: return needs.heights[value];
            case 10: return facts.widths[value];
            default: return NO_FACT;
        }
    }

    public int range(int value, int what) {
        if (!isValue(value) || what < 0 || what > 1) {
            return NO_NUMBER;
        }
        return what == 0 ? facts.leasts[value] : facts.greatests[value];
    }

    public int is(int value, int lane) {
        return isValue(value) && isLane(lane) ? machine.reckonLane(values, lane, value) : NO_NUMBER;
    }

    public int differs(int value) {
        if (!isValue(value)) {
            return NONE;
        }
        int first = machine.reckonLane(values, 0, value);
        int bits = 0;
        for (int lane = 1; lane < LANES; lane++) {
            if (machine.reckonLane(values, lane, value) != first) {
                bits |= 1 << lane;
            }
        }
        return bits;
    }

    public int shown(int i) {
        return isShown(i) ? values.shown[i] : NONE;
    }

    public int walked(int lane, int i) throws NoSuchElementException {
        if (!isLane(lane) || !isShown(i)) {
            throw new NoSuchElementException();
        }
        return machine.walk(lines, lane, i);
    }

    public int ran(int lane, int i) throws NoSuchElementException {
        if (!isLane(lane) || !isShown(i)) {
            throw new NoSuchElementException();
        }
        machine.run(schedule, lane);
        return machine.heldFor(schedule, values.shown[i]);
    }

    public long all(int what) {
        long bits = 0;
        for (int v = 0; v < values.count; v++) {
            if (belongs(v, what)) {
                bits |= 1L << v;
            }
        }
        return bits;
    }

    private boolean belongs(int value, int what) {
        switch (what) {
            case 0: return needs.isNeeded(value);
            case 1: return values.uniform[value];
            case 2: return facts.isKnown(value);
            case 3: return facts.isLow(value);
            case 4: return values.flags[value];
            case 5: return values.isShown(value);
            case 6: return values.made[value] == TEX;
            default: return false;
        }
    }

    public long kin(int value, int what) {
        if (!isValue(value) || !needs.isNeeded(value)) {
            return 0;
        }
        switch (what) {
            case 0: return needs.sourceBits[value];
            case 1: return needs.userBits[value];
            case 2: return needs.aheadBits[value];
            case 3: return needs.behindBits[value];
            default: return 0;
        }
    }

    // ---- the order, registers, clauses

    public int order(int place) {
        return isPlace(place) ? schedule.line[place] : NONE;
    }

    public int place(int value, int what) {
        if (!isValue(value) || !needs.isNeeded(value)) {
            return NONE;
        }
        switch (what) {
            case 0: return schedule.places[value];
            case 1: return schedule.ends[value];
            case 2: return schedule.registers[value];
            case 3: return schedule.clauseOf[value];
            case 4: return Long.bitCount(needs.aheadBits[value]);
            case 5: return schedule.size - 1 - Long.bitCount(needs.behindBits[value]);
            default: return NONE;
        }
    }

    public int pressure(int file) {
        return file >= 0 && file <= BOTH_FILES ? schedule.tops[file] : NONE;
    }

    public int at(int place, int file) {
        boolean told = isPlace(place) && file >= 0 && file <= BOTH_FILES;
        return told ? schedule.pressures[MOST_VALUES * file + place] : NONE;
    }

    public int used(int file) {
        return file >= 0 && file < FILES ? schedule.usedHalves[file] : NONE;
    }

    public int clause(int k, int what) {
        if (k < 0 || k >= schedule.clauses) {
            return NONE;
        }
        switch (what) {
            case 0: return values.made[schedule.line[schedule.clauseFirsts[k]]] == TEX ? 1 : 0;
            case 1: return schedule.clauseFirsts[k];
            case 2: return schedule.clauseSizes[k];
            case 3: return schedule.clauseCycles[k];
            default: return NONE;
        }
    }

    // ---- what another choice would change

    public int by(int rule, int what) {
        if (rule < 0 || rule >= RULES || what < 0 || what > 4) {
            return NONE;
        }
        imagine(NONE, rule);
        return cost(otherSchedule, what);
    }

    public int alone(int i, int what) {
        if (!isShown(i) || what < 0 || what > 5) {
            return NONE;
        }
        imagine(i, ruleNow);
        return cost(otherSchedule, what);
    }

    public int narrowed(int input, int low, int high, int what) {
        if (!isInput(input) || !isRange(low, high) || what < 0 || what > 7) {
            return NONE;
        }
        int lowNow = bench.lows[input];
        int highNow = bench.highs[input];
        bench.lows[input] = low;
        bench.highs[input] = high;
        imagine(NONE, ruleNow);
        bench.lows[input] = lowNow;
        bench.highs[input] = highNow;
        switch (what) {
            case 6: return otherFacts.countLow();
            case 7: return otherFacts.countKnown();
            default: return cost(otherSchedule, what);
        }
    }

    public int swapped(int place, int what) {
        if (!isPlace(place) || place >= schedule.size - 1 || what < 0 || what > 2) {
            return NONE;
        }
        int earlier = schedule.line[place];
        int later = schedule.line[place + 1];
        if ((needs.sourceBits[later] >>> earlier & 1) != 0) {
            return NONE;
        }
        imagine(NONE, ruleNow);
        otherSchedule.putAt(place, later);
        otherSchedule.putAt(place + 1, earlier);
        otherSchedule.settle(lines.fetch, lines.alu);
        return cost(otherSchedule, what);
    }

    private void imagine(int onlyShown, int rule) {
        otherFacts.reckon(bench.lows, bench.highs);
        otherNeeds.reckon(onlyShown);
        otherSchedule.arrange(rule);
        otherSchedule.settle(lines.fetch, lines.alu);
    }

    private static int cost(Schedule of, int what) {
        switch (what) {
            case 0: return of.tops[BOTH_FILES];
            case 1: return of.clauses;
            case 2: return of.cycles;
            case 3: return of.usedHalves[0];
            case 4: return of.usedHalves[1];
            case 5: return of.size;
            default: return NONE;
        }
    }

    public int best() {
        if (schedule.size > MOST_BEST) {
            return NONE;
        }
        if (bestNow == NOT_RECKONED) {
            bestNow = least.reckon();
        }
        return bestNow;
    }

    public int parts(int k) {
        if (k < 0 || k >= lines.whens) {
            return NONE;
        }
        return values.parted[k] ? 1 : 0;
    }

    public int count(int what) {
        switch (what) {
            case 0: return values.count;
            case 1: return lines.inputs;
            case 2: return values.shownCount;
            case 3: return schedule.size;
            case 4: return facts.countLow();
            case 5: return schedule.clauses;
            case 6: return schedule.cycles;
            case 7: return lines.fetch;
            case 8: return lines.alu;
            case 9: return ruleNow;
            case 10: return lines.whens;
            case 11: return tape.length;
            case 12: return lines.names;
            default: return NONE;
        }
    }

    // ---- what a number may be

    private boolean isInput(int input) {
        return input >= 0 && input < lines.inputs;
    }

    private boolean isValue(int value) {
        return value >= 0 && value < values.count;
    }

    private boolean isShown(int i) {
        return i >= 0 && i < values.shownCount;
    }

    private boolean isPlace(int place) {
        return place >= 0 && place < schedule.size;
    }

    private static boolean isLane(int lane) {
        return lane >= 0 && lane < LANES;
    }

    private static boolean isRange(int low, int high) {
        return low >= 0 && low <= high && high <= TOP;
    }

    // ---- ops

    private static int argsOf(int op) {
        switch (op) {
            case INPUT:
            case NUMBER: return 0;
            case TEX:
            case FLIP:
            case COPY: return 1;
            case PICK: return 3;
            default: return 2;
        }
    }

    private static int typeTaken(int op) {
        return op == BOTH || op == EITHER || op == FLIP ? FLAG : NUM;
    }

    private static int typeMade(int op) {
        return op >= LESS && op <= FLIP ? FLAG : NUM;
    }

    private static boolean goesEitherWay(int op) {
        return op == ADD || op == MUL || op == MIN || op == MAX || op == SAME || op == BOTH || op == EITHER;
    }

    private static int held(long number) {
        return (int) Math.max(-FAR, Math.min(FAR, number));
    }

    /** What an op makes of the numbers a, b, c; a FLAG is 0 or 1, so min and max work on FLAGS, too. */
    private static int made(int op, int a, int b, int c, int[] cells) {
        switch (op) {
            case ADD: return held((long) a + b);
            case SUB: return held((long) a - b);
            case MUL: return held((long) a * b);
            case MIN:
            case BOTH: return Math.min(a, b);
            case MAX:
            case EITHER: return Math.max(a, b);
            case TEX: return cells[Math.floorMod(a, CELLS)];
            case LESS: return a < b ? 1 : 0;
            case SAME: return a == b ? 1 : 0;
            case FLIP: return 1 - a;
            case PICK: return a == 1 ? b : c;
            default: return a;
        }
    }

    /** The signs that were fed, and the tokens read from them one by one. */
    private static final class Tape {
        static final int END = 0;
        static final int BROKEN = 1;
        static final int NUMERAL = 2;
        static final int SEMICOLON = 3;
        static final int NAME = 4;
        static final int RESERVED = 5;
        private static final int MOST_LETTERS = 7;
        private static final int MOST_DIGITS = 3;
        /** Seven letters of five bits each fit into a long, so unlike words never look alike. */
        private static final int LETTERS = 32;

        private final byte[] signs = new byte[MOST_SIGNS];
        private final long[] reserved = new long[RESERVED_COUNT];
        int length;
        private int next;
        /** Of the token that was read last: its kind, its first sign's place, its number, its letters. */
        int kind;
        int start;
        int number;
        long letters;

        Tape() {
            int word = 0;
            for (int i = 0; i < RESERVED_WORDS.length() && word < RESERVED_COUNT; i++) {
                char sign = RESERVED_WORDS.charAt(i);
                if (sign == ' ') {
                    word++;
                } else {
                    reserved[word] = reserved[word] * LETTERS + (sign - 'a' + 1);
                }
            }
        }

        void put(int sign) {
            boolean taken = sign == 10 || sign >= 32 && sign <= 126;
            if (taken && length < MOST_SIGNS) {
                signs[length] = (byte) sign;
                length++;
            }
        }

        void wipe() {
            length = 0;
        }

        void rewind() {
            next = 0;
        }

        void advance() {
            while (next < length && (signs[next] == 10 || signs[next] == 32)) {
                next++;
            }
            start = next;
            int sign = next < length ? signs[next] : 0;
            if (next >= length) {
                kind = END;
            } else if (sign >= 'a' && sign <= 'z') {
                readWord();
            } else if (sign >= '0' && sign <= '9') {
                readNumeral();
            } else {
                kind = sign == ';' ? SEMICOLON : BROKEN;
                next++;
            }
        }

        private void readWord() {
            letters = 0;
            while (next < length && signs[next] >= 'a' && signs[next] <= 'z') {
                letters = letters * LETTERS + (signs[next] - 'a' + 1);
                next++;
            }
            kind = next - start <= MOST_LETTERS ? NAME : BROKEN;
            for (int word = 0; word < RESERVED_COUNT && kind == NAME; word++) {
                if (reserved[word] == letters) {
                    kind = RESERVED;
                    number = word;
                }
            }
        }

        private void readNumeral() {
            number = 0;
            while (next < length && signs[next] >= '0' && signs[next] <= '9') {
                number = number * 10 + (signs[next] - '0');
                next++;
            }
            kind = next - start <= MOST_DIGITS ? NUMERAL : BROKEN;
        }

        boolean isWord(int word) {
            return kind == RESERVED && number == word;
        }
    }

    /** A shader's text as lines: what parsing leaves of it. A NAME is a slot, its number among those told. */
    private static final class Lines {
        int count;
        /** The reserved word that tells the line's kind; given stands for lane, too. */
        final int[] kinds = new int[MOST_LINES];
        final int[] starts = new int[MOST_LINES];
        /** The slot that is or given tells; of a when how many were told ahead of it. */
        final int[] slots = new int[MOST_LINES];
        final int[] ops = new int[MOST_LINES];
        final int[] opStarts = new int[MOST_LINES];
        /** A slot, or ~n of a NUMBER n. */
        final int[] args = new int[ARGS * MOST_LINES];
        final int[] argStarts = new int[ARGS * MOST_LINES];
        /** Of a when its else or else its end, of an else its end, of an end what it ends. */
        final int[] partners = new int[MOST_LINES];
        /** Of times how often, of a when which when, of given which input. */
        final int[] numbers = new int[MOST_LINES];
        int inputs;
        final boolean[] given = new boolean[MOST_INPUTS];
        final int[] lows = new int[MOST_INPUTS];
        final int[] highs = new int[MOST_INPUTS];
        int fetch = 4;
        int alu = 8;
        int whens;
        int names;

        void clear() {
            count = 0;
            inputs = 0;
            fetch = 4;
            alu = 8;
            whens = 0;
            names = 0;
        }

        int open(int kind, int start) {
            int line = count;
            kinds[line] = kind;
            starts[line] = start;
            partners[line] = NONE;
            count++;
            return line;
        }

        boolean endsTimes(int line) {
            return partners[line] >= 0 && kinds[partners[line]] == WORD_TIMES;
        }

        boolean hasElse(int when) {
            return partners[when] >= 0 && kinds[partners[when]] == WORD_ELSE;
        }
    }

    /** Reads the tape into its own lines; answers the first fault, or 0. */
    private static final class Parser {
        private final Tape tape;
        Lines lines = new Lines();
        private final long[] names = new long[MOST_NAMES];
        private final int[] types = new int[MOST_NAMES];
        private final boolean[] inputs = new boolean[MOST_NAMES];
        private int told;
        private final int[] openLines = new int[MOST_DEPTH];
        private int depth;
        private int whensOpen;
        private boolean fetchTold;
        private boolean aluTold;
        private int argType;

        Parser(Tape tape) {
            this.tape = tape;
        }

        int parse() {
            lines.clear();
            told = 0;
            depth = 0;
            whensOpen = 0;
            fetchTold = false;
            aluTold = false;
            tape.rewind();
            int fault = 0;
            tape.advance();
            for (int turn = 0; turn < MOST_SIGNS && fault == 0 && tape.kind != Tape.END; turn++) {
                fault = readLine();
                if (fault == 0) {
                    tape.advance();
                }
            }
            if (fault == 0 && depth > 0) {
                fault = faultHere(FAULT_STAND);
            }
            lines.names = told;
            return fault;
        }

        private int faultHere(int kind) {
            return kind + 16 * tape.start;
        }

        private int readLine() {
            if (lines.count >= MOST_LINES) {
                return faultHere(FAULT_MANY);
            }
            if (tape.kind == Tape.NAME) {
                return readIs();
            }
            if (tape.kind != Tape.RESERVED) {
                return faultHere(FAULT_STAND);
            }
            switch (tape.number) {
                case WORD_GIVEN:
                case WORD_LANE: return readInput(tape.number == WORD_GIVEN);
                case WORD_FETCH: return readFetch();
                case WORD_ALU: return readAlu();
                case WORD_WHEN: return readWhen();
                case WORD_ELSE: return readElse();
                case WORD_TIMES: return readTimes();
                case WORD_END: return readEnd();
                case WORD_SHOW: return readShow();
                default: return faultHere(FAULT_STAND);
            }
        }

        private int readInput(boolean given) {
            if (depth > 0) {
                return faultHere(FAULT_STAND);
            }
            if (lines.inputs >= MOST_INPUTS) {
                return faultHere(FAULT_MANY);
            }
            int input = lines.inputs;
            lines.inputs++;
            lines.given[input] = given;
            int fault = readInputName(input);
            if (fault == 0) {
                fault = readNumber(0, TOP);
            }
            if (fault == 0) {
                lines.lows[input] = tape.number;
                fault = readNumber(tape.number, TOP);
            }
            if (fault == 0) {
                lines.highs[input] = tape.number;
                fault = readSemicolon();
            }
            return fault;
        }

        private int readInputName(int input) {
            int line = lines.open(WORD_GIVEN, tape.start);
            tape.advance();
            if (tape.kind != Tape.NAME) {
                return faultHere(FAULT_STAND);
            }
            if (slotOf(tape.letters) != NONE) {
                return faultHere(FAULT_TOLD);
            }
            if (told >= MOST_NAMES) {
                return faultHere(FAULT_MANY);
            }
            lines.numbers[line] = input;
            lines.slots[line] = tell(tape.letters, NUM, true);
            return 0;
        }

        private int readFetch() {
            if (depth > 0) {
                return faultHere(FAULT_STAND);
            }
            if (fetchTold) {
                return faultHere(FAULT_TOLD);
            }
            int fault = readNumber(1, MOST_FETCH);
            if (fault == 0) {
                fetchTold = true;
                lines.fetch = tape.number;
                fault = readSemicolon();
            }
            return fault;
        }

        private int readAlu() {
            if (depth > 0) {
                return faultHere(FAULT_STAND);
            }
            if (aluTold) {
                return faultHere(FAULT_TOLD);
            }
            int fault = readNumber(1, MOST_ALU);
            if (fault == 0) {
                aluTold = true;
                lines.alu = tape.number;
                fault = readSemicolon();
            }
            return fault;
        }

        private int readWhen() {
            if (depth >= MOST_DEPTH) {
                return faultHere(FAULT_MANY);
            }
            int line = lines.open(WORD_WHEN, tape.start);
            tape.advance();
            int fault = takeArg(line, 0, FLAG);
            if (fault == 0) {
                lines.slots[line] = told;
                lines.numbers[line] = lines.whens;
                lines.whens++;
                whensOpen++;
                openLines[depth] = line;
                depth++;
                fault = readSemicolon();
            }
            return fault;
        }

        private int readElse() {
            int opened = depth > 0 ? openLines[depth - 1] : NONE;
            if (opened == NONE || lines.kinds[opened] != WORD_WHEN || lines.partners[opened] != NONE) {
                return faultHere(FAULT_STAND);
            }
            lines.partners[opened] = lines.open(WORD_ELSE, tape.start);
            told = lines.slots[opened];
            return readSemicolon();
        }

        private int readTimes() {
            if (depth >= MOST_DEPTH) {
                return faultHere(FAULT_MANY);
            }
            int line = lines.open(WORD_TIMES, tape.start);
            int fault = readNumber(2, MOST_TIMES);
            if (fault == 0) {
                lines.numbers[line] = tape.number;
                openLines[depth] = line;
                depth++;
                fault = readSemicolon();
            }
            return fault;
        }

        private int readEnd() {
            if (depth == 0) {
                return faultHere(FAULT_STAND);
            }
            depth--;
            int opened = openLines[depth];
            int line = lines.open(WORD_END, tape.start);
            lines.partners[line] = opened;
            if (lines.kinds[opened] == WORD_WHEN) {
                int elseLine = lines.partners[opened];
                lines.partners[elseLine == NONE ? opened : elseLine] = line;
                told = lines.slots[opened];
                whensOpen--;
            }
            return readSemicolon();
        }

        private int readShow() {
            if (whensOpen > 0) {
                return faultHere(FAULT_STAND);
            }
            int line = lines.open(WORD_SHOW, tape.start);
            tape.advance();
            int fault = takeArg(line, 0, NUM);
            return fault == 0 ? readSemicolon() : fault;
        }

        private int readIs() {
            int slot = slotOf(tape.letters);
            if (slot != NONE && inputs[slot]) {
                return faultHere(FAULT_TOLD);
            }
            if (slot == NONE && told >= MOST_NAMES) {
                return faultHere(FAULT_MANY);
            }
            long letters = tape.letters;
            int line = lines.open(WORD_IS, tape.start);
            tape.advance();
            if (!tape.isWord(WORD_IS)) {
                return faultHere(FAULT_STAND);
            }
            int fault = readOp(line, slot == NONE ? ANY_TYPE : types[slot]);
            if (fault == 0) {
                fault = readSemicolon();
            }
            if (fault == 0) {
                // only now: within its own first line a NAME is not told yet
                lines.slots[line] = slot == NONE ? tell(letters, argType, false) : slot;
            }
            return fault;
        }

        /** Reads an op and its args; argType is then the type that it makes. */
        private int readOp(int line, int type) {
            tape.advance();
            if (tape.kind != Tape.RESERVED || tape.number < WORD_ADD) {
                return faultHere(FAULT_STAND);
            }
            int op = tape.number - WORD_ADD + ADD;
            boolean asArgs = op == PICK || op == COPY;
            if (!asArgs && type != ANY_TYPE && type != typeMade(op)) {
                return faultHere(FAULT_TYPE);
            }
            lines.ops[line] = op;
            lines.opStarts[line] = tape.start;
            int fault = 0;
            for (int k = 0; k < argsOf(op) && fault == 0; k++) {
                tape.advance();
                fault = takeArg(line, k, typeWanted(op, k, type));
            }
            if (!asArgs) {
                argType = typeMade(op);
            }
            return fault;
        }

        private int typeWanted(int op, int k, int type) {
            if (op == COPY) {
                return type;
            }
            if (op != PICK) {
                return typeTaken(op);
            }
            switch (k) {
                case 0: return FLAG;
                case 1: return type;
                default: return argType;
            }
        }

        /** Takes the token that was read as a line's k-th arg. */
        private int takeArg(int line, int k, int type) {
            int arg;
            if (tape.kind == Tape.NUMERAL) {
                arg = ~tape.number;
                argType = NUM;
            } else if (tape.kind == Tape.NAME) {
                arg = slotOf(tape.letters);
                if (arg == NONE) {
                    return faultHere(FAULT_NOT_TOLD);
                }
                argType = types[arg];
            } else {
                return faultHere(FAULT_STAND);
            }
            lines.args[ARGS * line + k] = arg;
            lines.argStarts[ARGS * line + k] = tape.start;
            return type == ANY_TYPE || type == argType ? 0 : faultHere(FAULT_TYPE);
        }

        private int readNumber(int low, int high) {
            tape.advance();
            if (tape.kind != Tape.NUMERAL) {
                return faultHere(FAULT_STAND);
            }
            return tape.number < low || tape.number > high ? faultHere(FAULT_NUMBER) : 0;
        }

        private int readSemicolon() {
            tape.advance();
            return tape.kind == Tape.SEMICOLON ? 0 : faultHere(FAULT_STAND);
        }

        private int slotOf(long letters) {
            for (int slot = 0; slot < told; slot++) {
                if (names[slot] == letters) {
                    return slot;
                }
            }
            return NONE;
        }

        private int tell(long letters, int type, boolean input) {
            int slot = told;
            names[slot] = letters;
            types[slot] = type;
            inputs[slot] = input;
            told++;
            return slot;
        }
    }

    /** The VALUES in single form, the SHOWN ones, and which whens parted lanes. */
    private static final class Values {
        int count;
        final int[] made = new int[MOST_VALUES];
        final int[] args = new int[ARGS * MOST_VALUES];
        final boolean[] flags = new boolean[MOST_VALUES];
        final boolean[] uniform = new boolean[MOST_VALUES];
        int shownCount;
        final int[] shown = new int[MOST_SHOWN];
        final boolean[] parted = new boolean[MOST_LINES];

        void start(Lines lines) {
            count = 0;
            shownCount = 0;
            for (int input = 0; input < lines.inputs; input++) {
                int value = single(INPUT, input, NONE, NONE);
                if (value != NONE) {
                    uniform[value] = lines.given[input];
                }
            }
            for (int k = 0; k < lines.whens && k < MOST_LINES; k++) {
                parted[k] = false;
            }
        }

        /** The VALUE that an op makes; NONE if it would be one too many. */
        int ofOp(int op, int a, int b, int c) {
            if (op == COPY) {
                return a;
            }
            if (op == PICK && b == c) {
                return b;
            }
            return goesEitherWay(op) && b < a ? single(op, b, a, c) : single(op, a, b, c);
        }

        int single(int kind, int a, int b, int c) {
            for (int v = 0; v < count; v++) {
                int at = ARGS * v;
                if (made[v] == kind && args[at] == a && args[at + 1] == b && args[at + 2] == c) {
                    return v;
                }
            }
            if (count >= MOST_VALUES) {
                return NONE;
            }
            int value = count;
            made[value] = kind;
            args[ARGS * value] = a;
            args[ARGS * value + 1] = b;
            args[ARGS * value + 2] = c;
            flags[value] = typeMade(kind) == FLAG || kind == PICK && flags[b];
            uniform[value] = true;
            for (int k = 0; k < argsOf(kind); k++) {
                uniform[value] = uniform[value] && uniform[args[ARGS * value + k]];
            }
            count++;
            return value;
        }

        boolean isShown(int value) {
            for (int i = 0; i < shownCount; i++) {
                if (shown[i] == value) {
                    return true;
                }
            }
            return false;
        }

        void copyFrom(Values other) {
            count = other.count;
            shownCount = other.shownCount;
            System.arraycopy(other.made, 0, made, 0, MOST_VALUES);
            System.arraycopy(other.args, 0, args, 0, ARGS * MOST_VALUES);
            System.arraycopy(other.shown, 0, shown, 0, MOST_SHOWN);
            for (int v = 0; v < MOST_VALUES; v++) {
                flags[v] = other.flags[v];
                uniform[v] = other.uniform[v];
            }
            for (int k = 0; k < MOST_LINES; k++) {
                parted[k] = other.parted[k];
            }
        }
    }

    /** Works lines into its own values: loops unrolled, both parts of each when. */
    private static final class Worker {
        final Values values = new Values();
        /** The VALUE of each slot now; and, by depth, at a when's begin and at its first part's end. */
        private final int[] now = new int[MOST_NAMES];
        private final int[][] begins = new int[MOST_DEPTH][MOST_NAMES];
        private final int[][] firsts = new int[MOST_DEPTH][MOST_NAMES];
        private final int[] flags = new int[MOST_DEPTH];
        private final int[] left = new int[MOST_DEPTH];
        private final int[] taken = new int[ARGS];
        private int depth;
        private int worked;
        private int fault;

        int work(Lines lines) {
            values.start(lines);
            depth = 0;
            worked = 0;
            fault = 0;
            int line = 0;
            for (int step = 0; step < MOST_STEPS && line < lines.count && fault == 0; step++) {
                countLine(lines, line);
                if (fault == 0) {
                    line = workLine(lines, line);
                }
            }
            return fault;
        }

        private void countLine(Lines lines, int line) {
            int kind = lines.kinds[line];
            if (kind == WORD_IS || kind == WORD_WHEN || kind == WORD_TIMES || kind == WORD_SHOW) {
                worked++;
                if (worked > MOST_WORKED) {
                    tooMany(lines.starts[line]);
                }
            }
        }

        private void tooMany(int start) {
            if (fault == 0) {
                fault = FAULT_MANY + 16 * start;
            }
        }

        /** Works one line and answers which is next. */
        private int workLine(Lines lines, int line) {
            switch (lines.kinds[line]) {
                case WORD_GIVEN:
                    now[lines.slots[line]] = lines.numbers[line];
                    return line + 1;
                case WORD_IS:
                    workIs(lines, line);
                    return line + 1;
                case WORD_SHOW:
                    workShow(lines, line);
                    return line + 1;
                case WORD_WHEN:
                    beginWhen(lines, line);
                    return line + 1;
                case WORD_ELSE:
                    endFirstPart(depth - 1);
                    return line + 1;
                case WORD_TIMES:
                    beginTimes(lines.numbers[line]);
                    return line + 1;
                default:
                    return lines.endsTimes(line) ? endTimes(lines, line) : endWhen(lines, line);
            }
        }

        private void beginTimes(int times) {
            if (depth < MOST_DEPTH) {
                left[depth] = times;
                depth++;
            }
        }

        /** What stands now is the first part's; the second one goes on from the same begin. */
        private void endFirstPart(int level) {
            if (level >= 0) {
                System.arraycopy(now, 0, firsts[level], 0, MOST_NAMES);
                System.arraycopy(begins[level], 0, now, 0, MOST_NAMES);
            }
        }

        private void workIs(Lines lines, int line) {
            int op = lines.ops[line];
            for (int k = 0; k < ARGS; k++) {
                taken[k] = k < argsOf(op) && fault == 0 ? argValue(lines, line, k) : NONE;
            }
            if (fault == 0) {
                int value = values.ofOp(op, taken[0], taken[1], taken[2]);
                keep(lines.slots[line], value, lines.opStarts[line]);
            }
        }

        private void workShow(Lines lines, int line) {
            if (values.shownCount >= MOST_SHOWN) {
                tooMany(lines.starts[line]);
                return;
            }
            int value = argValue(lines, line, 0);
            if (fault == 0) {
                values.shown[values.shownCount] = value;
                values.shownCount++;
            }
        }

        private int argValue(Lines lines, int line, int k) {
            int arg = lines.args[ARGS * line + k];
            if (arg >= 0) {
                return now[arg];
            }
            int value = values.single(NUMBER, ~arg, NONE, NONE);
            if (value == NONE) {
                tooMany(lines.argStarts[ARGS * line + k]);
            }
            return value;
        }

        private void keep(int slot, int value, int start) {
            if (value == NONE) {
                tooMany(start);
            } else {
                now[slot] = value;
            }
        }

        private void beginWhen(Lines lines, int line) {
            int flag = argValue(lines, line, 0);
            if (flag == NONE || depth >= MOST_DEPTH) {
                return;
            }
            flags[depth] = flag;
            if (!values.uniform[flag]) {
                values.parted[lines.numbers[line]] = true;
            }
            System.arraycopy(now, 0, begins[depth], 0, MOST_NAMES);
            depth++;
        }

        private int endTimes(Lines lines, int line) {
            if (depth == 0) {
                return line + 1;
            }
            left[depth - 1]--;
            if (left[depth - 1] > 0) {
                return lines.partners[line] + 1;
            }
            depth--;
            return line + 1;
        }

        private int endWhen(Lines lines, int line) {
            int when = lines.partners[line];
            if (depth == 0 || when < 0) {
                return line + 1;
            }
            depth--;
            if (!lines.hasElse(when)) {
                endFirstPart(depth);
            }
            for (int slot = 0; slot < lines.slots[when] && fault == 0; slot++) {
                int value = values.ofOp(PICK, flags[depth], firsts[depth][slot], now[slot]);
                keep(slot, value, lines.starts[line]);
            }
            return line + 1;
        }
    }

    /** What can be set: each input's range, what it is in the lanes, and the table. */
    private static final class Bench {
        final int[] lows = new int[MOST_INPUTS];
        final int[] highs = new int[MOST_INPUTS];
        final int[] numbers = new int[LANES * MOST_INPUTS];
        final int[] cells = new int[CELLS];

        void start(Lines lines) {
            for (int input = 0; input < lines.inputs; input++) {
                lows[input] = lines.lows[input];
                highs[input] = lines.highs[input];
                for (int lane = 0; lane < LANES; lane++) {
                    numbers[LANES * input + lane] = lines.lows[input];
                }
            }
        }

        boolean liesWithin(int input, int low, int high) {
            for (int lane = 0; lane < LANES; lane++) {
                int number = numbers[LANES * input + lane];
                if (number < low || number > high) {
                    return false;
                }
            }
            return true;
        }
    }

    /** Works out numbers in one lane: by values, by walking the lines, by running the schedule. */
    private static final class Machine {
        private final Bench bench;
        private final int[] results = new int[MOST_VALUES];
        private final int[] slots = new int[MOST_NAMES];
        private final int[] left = new int[MOST_DEPTH];
        private final int[] halves = new int[FILES * HALVES];
        private final int[] taken = new int[ARGS];
        private int depth;

        Machine(Bench bench) {
            this.bench = bench;
        }

        int reckonLane(Values values, int lane, int value) {
            for (int v = 0; v <= value; v++) {
                int op = values.made[v];
                for (int k = 0; k < argsOf(op); k++) {
                    taken[k] = results[values.args[ARGS * v + k]];
                }
                results[v] = reckonOne(values, lane, v);
            }
            return results[value];
        }

        /** What a VALUE is of what was taken for its args. */
        private int reckonOne(Values values, int lane, int value) {
            int which = values.args[ARGS * value];
            switch (values.made[value]) {
                case INPUT: return bench.numbers[LANES * which + lane];
                case NUMBER: return which;
                default: return made(values.made[value], taken[0], taken[1], taken[2], bench.cells);
            }
        }

        int walk(Lines lines, int lane, int wanted) {
            int seen = 0;
            int line = 0;
            depth = 0;
            for (int step = 0; step < MOST_STEPS && line < lines.count; step++) {
                if (lines.kinds[line] == WORD_SHOW) {
                    if (seen == wanted) {
                        return argNumber(lines, line, 0);
                    }
                    seen++;
                }
                line = walkLine(lines, line, lane);
            }
            return NONE;
        }

        private int walkLine(Lines lines, int line, int lane) {
            switch (lines.kinds[line]) {
                case WORD_GIVEN:
                    slots[lines.slots[line]] = bench.numbers[LANES * lines.numbers[line] + lane];
                    return line + 1;
                case WORD_IS:
                    walkIs(lines, line);
                    return line + 1;
                case WORD_WHEN:
                    return argNumber(lines, line, 0) == 1 ? line + 1 : lines.partners[line] + 1;
                case WORD_ELSE:
                    return lines.partners[line] + 1;
                case WORD_TIMES:
                    walkTimes(lines.numbers[line]);
                    return line + 1;
                case WORD_END:
                    return lines.endsTimes(line) ? walkTimesEnd(lines, line) : line + 1;
                default:
                    return line + 1;
            }
        }

        private void walkIs(Lines lines, int line) {
            int op = lines.ops[line];
            for (int k = 0; k < argsOf(op); k++) {
                taken[k] = argNumber(lines, line, k);
            }
            slots[lines.slots[line]] = made(op, taken[0], taken[1], taken[2], bench.cells);
        }

        private void walkTimes(int times) {
            if (depth < MOST_DEPTH) {
                left[depth] = times;
                depth++;
            }
        }

        private int walkTimesEnd(Lines lines, int line) {
            if (depth == 0) {
                return line + 1;
            }
            left[depth - 1]--;
            if (left[depth - 1] > 0) {
                return lines.partners[line] + 1;
            }
            depth--;
            return line + 1;
        }

        private int argNumber(Lines lines, int line, int k) {
            int arg = lines.args[ARGS * line + k];
            return arg >= 0 ? slots[arg] : ~arg;
        }

        void run(Schedule schedule, int lane) {
            Values values = schedule.values;
            for (int place = 0; place < schedule.size; place++) {
                int value = schedule.line[place];
                for (int k = 0; k < argsOf(values.made[value]); k++) {
                    taken[k] = heldFor(schedule, values.args[ARGS * value + k]);
                }
                halves[schedule.halfOf(value)] = reckonOne(values, lane, value);
            }
        }

        /** What is held for a VALUE: what is known of it, or its register's number. */
        int heldFor(Schedule schedule, int value) {
            int held = schedule.needs.standsFor[value];
            if (schedule.facts.isKnown(held)) {
                return schedule.facts.leasts[held];
            }
            return halves[schedule.halfOf(held)];
        }
    }

    /** The range of each VALUE, and what follows from it alone. */
    private static final class Facts {
        private final Values values;
        final int[] leasts = new int[MOST_VALUES];
        final int[] greatests = new int[MOST_VALUES];
        final int[] widths = new int[MOST_VALUES];

        Facts(Values values) {
            this.values = values;
        }

        void reckon(int[] lows, int[] highs) {
            for (int v = 0; v < values.count; v++) {
                int a = values.args[ARGS * v];
                int b = values.args[ARGS * v + 1];
                switch (values.made[v]) {
                    case INPUT: put(v, lows[a], highs[a]); break;
                    case NUMBER: put(v, a, a); break;
                    case TEX: put(v, 0, TOP); break;
                    case FLIP: put(v, 1 - greatests[a], 1 - leasts[a]); break;
                    case PICK: putPick(v, a, b, values.args[ARGS * v + 2]); break;
                    default: putPair(v, a, b); break;
                }
                widths[v] = values.flags[v] || isLow(v) ? 1 : 2;
            }
        }

        private void put(int value, int least, int greatest) {
            leasts[value] = least;
            greatests[value] = greatest;
        }

        private void putPick(int value, int flag, int yes, int no) {
            if (isKnown(flag)) {
                int taken = leasts[flag] == 1 ? yes : no;
                put(value, leasts[taken], greatests[taken]);
            } else {
                put(value, Math.min(leasts[yes], leasts[no]), Math.max(greatests[yes], greatests[no]));
            }
        }

        private void putPair(int value, int a, int b) {
            int lowA = leasts[a];
            int highA = greatests[a];
            int lowB = leasts[b];
            int highB = greatests[b];
            switch (values.made[value]) {
                case ADD: put(value, held((long) lowA + lowB), held((long) highA + highB)); break;
                case SUB: put(value, held((long) lowA - highB), held((long) highA - lowB)); break;
                case MUL: putProduct(value, a, b); break;
                case MIN:
                case BOTH: put(value, Math.min(lowA, lowB), Math.min(highA, highB)); break;
                case MAX:
                case EITHER: put(value, Math.max(lowA, lowB), Math.max(highA, highB)); break;
                case LESS: putFlag(value, highA < lowB, lowA >= highB); break;
                case SAME:
                    boolean oneNumber = lowA == highA && lowB == highB && lowA == lowB;
                    putFlag(value, oneNumber, highA < lowB || highB < lowA);
                    break;
                default: break;
            }
        }

        private void putProduct(int value, int a, int b) {
            int one = held((long) leasts[a] * leasts[b]);
            int two = held((long) leasts[a] * greatests[b]);
            int three = held((long) greatests[a] * leasts[b]);
            int four = held((long) greatests[a] * greatests[b]);
            int least = Math.min(Math.min(one, two), Math.min(three, four));
            put(value, least, Math.max(Math.max(one, two), Math.max(three, four)));
        }

        private void putFlag(int value, boolean surelyYes, boolean surelyNo) {
            put(value, surelyYes ? 1 : 0, surelyNo ? 0 : 1);
        }

        boolean isKnown(int value) {
            return leasts[value] == greatests[value];
        }

        boolean isLow(int value) {
            return !values.flags[value] && leasts[value] >= -512 && greatests[value] <= 511;
        }

        int countLow() {
            int low = 0;
            for (int v = 0; v < values.count; v++) {
                low += isLow(v) ? 1 : 0;
            }
            return low;
        }

        int countKnown() {
            int known = 0;
            for (int v = 0; v < values.count; v++) {
                known += isKnown(v) ? 1 : 0;
            }
            return known;
        }
    }

    /** Which VALUES are NEEDED, and how they hang together. */
    private static final class Needs {
        private final Values values;
        private final Facts facts;
        final int[] standsFor = new int[MOST_VALUES];
        long needed;
        /** Those that a SHOWN one stands for: they live to the end. */
        long kept;
        final int[] sources = new int[ARGS * MOST_VALUES];
        final int[] sourceCounts = new int[MOST_VALUES];
        final long[] sourceBits = new long[MOST_VALUES];
        final long[] userBits = new long[MOST_VALUES];
        final long[] aheadBits = new long[MOST_VALUES];
        final long[] behindBits = new long[MOST_VALUES];
        final int[] heights = new int[MOST_VALUES];

        Needs(Values values, Facts facts) {
            this.values = values;
            this.facts = facts;
        }

        /** All SHOWN ones count, or one alone. */
        void reckon(int onlyShown) {
            for (int v = 0; v < values.count; v++) {
                findStandsFor(v);
                findSources(v);
                userBits[v] = 0;
                behindBits[v] = 0;
                heights[v] = 0;
            }
            keepShown(onlyShown);
            findUsers();
        }

        boolean isNeeded(int value) {
            return (needed >>> value & 1) != 0;
        }

        boolean isKept(int value) {
            return (kept >>> value & 1) != 0;
        }

        private void findStandsFor(int value) {
            int flag = values.args[ARGS * value];
            standsFor[value] = value;
            if (values.made[value] == PICK && !facts.isKnown(value) && facts.isKnown(flag)) {
                int k = facts.leasts[flag] == 1 ? 1 : 2;
                standsFor[value] = standsFor[values.args[ARGS * value + k]];
            }
        }

        private void findSources(int value) {
            sourceCounts[value] = 0;
            sourceBits[value] = 0;
            aheadBits[value] = 0;
            for (int k = 0; k < argsOf(values.made[value]); k++) {
                int source = standsFor[values.args[ARGS * value + k]];
                boolean has = (sourceBits[value] >>> source & 1) != 0;
                if (!has && !facts.isKnown(source)) {
                    sources[ARGS * value + sourceCounts[value]] = source;
                    sourceCounts[value]++;
                    sourceBits[value] |= 1L << source;
                    aheadBits[value] |= 1L << source | aheadBits[source];
                }
            }
        }

        private void keepShown(int onlyShown) {
            kept = 0;
            for (int i = 0; i < values.shownCount; i++) {
                int value = standsFor[values.shown[i]];
                if ((onlyShown == NONE || onlyShown == i) && !facts.isKnown(value)) {
                    kept |= 1L << value;
                }
            }
            needed = kept;
        }

        /** A VALUE's users have higher numbers: from the highest down, all users are there in time. */
        private void findUsers() {
            for (int v = values.count - 1; v >= 0; v--) {
                if (!isNeeded(v)) {
                    continue;
                }
                needed |= sourceBits[v];
                heights[v]++;
                for (int k = 0; k < sourceCounts[v]; k++) {
                    int source = sources[ARGS * v + k];
                    userBits[source] |= 1L << v;
                    behindBits[source] |= 1L << v | behindBits[v];
                    heights[source] = Math.max(heights[source], heights[v]);
                }
            }
        }
    }

    /** The ORDER, and what follows from it: pressure, registers, clauses, cycles. */
    private static final class Schedule {
        final Values values;
        final Facts facts;
        final Needs needs;
        final int[] line = new int[MOST_VALUES];
        int size;
        final int[] places = new int[MOST_VALUES];
        final int[] ends = new int[MOST_VALUES];
        /** By file (the third row is of both together), then by place. */
        final int[] pressures = new int[(FILES + 1) * MOST_VALUES];
        final int[] tops = new int[FILES + 1];
        final int[] registers = new int[MOST_VALUES];
        private final boolean[] busy = new boolean[FILES * HALVES];
        final int[] usedHalves = new int[FILES];
        final int[] clauseOf = new int[MOST_VALUES];
        final int[] clauseFirsts = new int[MOST_VALUES];
        final int[] clauseSizes = new int[MOST_VALUES];
        final int[] clauseCycles = new int[MOST_VALUES];
        int clauses;
        int cycles;

        Schedule(Values values, Facts facts, Needs needs) {
            this.values = values;
            this.facts = facts;
            this.needs = needs;
        }

        void arrange(int rule) {
            long placed = 0;
            size = 0;
            for (int turn = 0; turn < values.count; turn++) {
                int next = NONE;
                for (int v = 0; v < values.count; v++) {
                    boolean ready = needs.isNeeded(v) && (placed >>> v & 1) == 0
                        && (needs.sourceBits[v] & ~placed) == 0;
                    if (ready && (next == NONE || goesAhead(v, next, rule, placed))) {
                        next = v;
                    }
                }
                if (next != NONE) {
                    putAt(size, next);
                    size++;
                    placed |= 1L << next;
                }
            }
        }

        void putAt(int place, int value) {
            line[place] = value;
            places[value] = place;
        }

        /** Whether a VALUE goes ahead of a lower one; the lower one has it where they are equal. */
        private boolean goesAhead(int value, int lower, int rule, long placed) {
            switch (rule) {
                case 0:
                    int more = growth(value, placed) - growth(lower, placed);
                    return more < 0 || more == 0 && needs.heights[value] > needs.heights[lower];
                case 2:
                    return needs.heights[value] > needs.heights[lower];
                case 3:
                    return values.made[value] == TEX && values.made[lower] != TEX;
                default:
                    return false;
            }
        }

        /** By how much the living widths grow if a VALUE is next. */
        private int growth(int value, long placed) {
            long then = placed | 1L << value;
            int grown = facts.widths[value];
            for (int k = 0; k < needs.sourceCounts[value]; k++) {
                int source = needs.sources[ARGS * value + k];
                if ((needs.userBits[source] & ~then) == 0 && !needs.isKept(source)) {
                    grown -= facts.widths[source];
                }
            }
            return grown;
        }

        /** All that follows from the order that stands. */
        void settle(int fetch, int alu) {
            findEnds();
            findPressures();
            giveRegisters();
            cutClauses(fetch, alu);
        }

        private void findEnds() {
            for (int place = 0; place < size; place++) {
                int value = line[place];
                ends[value] = needs.isKept(value) ? size : place;
                for (int k = 0; k < needs.sourceCounts[value]; k++) {
                    int source = needs.sources[ARGS * value + k];
                    ends[source] = Math.max(ends[source], place);
                }
            }
        }

        private void findPressures() {
            for (int file = 0; file <= FILES; file++) {
                tops[file] = 0;
                for (int place = 0; place < size; place++) {
                    pressures[MOST_VALUES * file + place] = pressureAt(place, file);
                    tops[file] = Math.max(tops[file], pressures[MOST_VALUES * file + place]);
                }
            }
        }

        private int pressureAt(int place, int file) {
            int sum = 0;
            for (int p = 0; p <= place; p++) {
                int value = line[p];
                if (ends[value] > place && (file == BOTH_FILES || file == fileOf(value))) {
                    sum += facts.widths[value];
                }
            }
            return sum;
        }

        int fileOf(int value) {
            return values.uniform[value] ? 0 : 1;
        }

        int halfOf(int value) {
            return HALVES * fileOf(value) + registers[value];
        }

        private void giveRegisters() {
            for (int half = 0; half < FILES * HALVES; half++) {
                busy[half] = false;
            }
            usedHalves[0] = 0;
            usedHalves[1] = 0;
            for (int place = 0; place < size; place++) {
                for (int p = 0; p < place; p++) {
                    if (ends[line[p]] == place) {
                        mark(line[p], false);
                    }
                }
                int value = line[place];
                int file = fileOf(value);
                registers[value] = lowestFree(file, facts.widths[value]);
                mark(value, true);
                usedHalves[file] = Math.max(usedHalves[file], registers[value] + facts.widths[value]);
            }
        }

        private void mark(int value, boolean taken) {
            for (int half = 0; half < facts.widths[value]; half++) {
                busy[halfOf(value) + half] = taken;
            }
        }

        /** A value of width 2 begins at an even half, so steps go by the width. */
        private int lowestFree(int file, int width) {
            for (int half = 0; half + width <= HALVES; half += width) {
                int at = HALVES * file + half;
                if (!busy[at] && !busy[at + width - 1]) {
                    return half;
                }
            }
            return 0;
        }

        private void cutClauses(int fetch, int alu) {
            clauses = 0;
            cycles = 0;
            for (int place = 0; place < size; place++) {
                int value = line[place];
                boolean tex = values.made[value] == TEX;
                if (!joins(value, tex, tex ? fetch : alu)) {
                    clauseFirsts[clauses] = place;
                    clauseSizes[clauses] = 0;
                    clauseCycles[clauses] = tex ? 12 : 2;
                    cycles += clauseCycles[clauses];
                    clauses++;
                }
                clauseOf[value] = clauses - 1;
                clauseSizes[clauses - 1]++;
                clauseCycles[clauses - 1] += cyclesOf(value);
                cycles += cyclesOf(value);
            }
        }

        /** Whether a VALUE can go into the clause that was begun last. */
        private boolean joins(int value, boolean tex, int limit) {
            if (clauses == 0) {
                return false;
            }
            int last = clauses - 1;
            boolean lastTex = values.made[line[clauseFirsts[last]]] == TEX;
            if (lastTex != tex || clauseSizes[last] >= limit) {
                return false;
            }
            for (int k = 0; k < needs.sourceCounts[value] && tex; k++) {
                if (clauseOf[needs.sources[ARGS * value + k]] == last) {
                    return false;
                }
            }
            return true;
        }

        private int cyclesOf(int value) {
            int kind = values.made[value];
            if (kind == TEX) {
                return 2;
            }
            if (values.uniform[value] || kind == INPUT) {
                return 1;
            }
            return kind == MUL ? 2 * facts.widths[value] : facts.widths[value];
        }
    }

    /** The least pressure of all orders, over the sets of VALUES that can be placed first. */
    private static final class Best {
        private static final int NEVER = Integer.MAX_VALUE;

        private final Values values;
        private final Facts facts;
        private final Needs needs;
        /** By set: the least of the pressures that lead to it; NEVER if none does. It grows as is needed. */
        private int[] roads = new int[1];
        private final int[] members = new int[MOST_BEST];
        private final int[] sourceSets = new int[MOST_BEST];
        private final int[] userSets = new int[MOST_BEST];
        private int size;

        Best(Values values, Facts facts, Needs needs) {
            this.values = values;
            this.facts = facts;
            this.needs = needs;
        }

        int reckon() {
            gather();
            int full = (1 << size) - 1;
            if (roads.length <= full) {
                roads = new int[full + 1];
            }
            for (int set = 0; set <= full; set++) {
                roads[set] = NEVER;
            }
            roads[0] = 0;
            for (int set = 0; set <= full; set++) {
                if (roads[set] != NEVER) {
                    roads[set] = Math.max(roads[set], living(set));
                    goOn(set);
                }
            }
            return roads[full];
        }

        private void gather() {
            size = 0;
            for (int v = 0; v < values.count && size < MOST_BEST; v++) {
                if (needs.isNeeded(v)) {
                    members[size] = v;
                    size++;
                }
            }
            for (int m = 0; m < size; m++) {
                sourceSets[m] = asSet(needs.sourceBits[members[m]]);
                userSets[m] = asSet(needs.userBits[members[m]]);
            }
        }

        private int asSet(long bits) {
            int set = 0;
            for (int m = 0; m < size; m++) {
                if ((bits >>> members[m] & 1) != 0) {
                    set |= 1 << m;
                }
            }
            return set;
        }

        private int living(int set) {
            int sum = 0;
            for (int m = 0; m < size; m++) {
                boolean in = (set >>> m & 1) != 0;
                if (in && (needs.isKept(members[m]) || (userSets[m] & ~set) != 0)) {
                    sum += facts.widths[members[m]];
                }
            }
            return sum;
        }

        private void goOn(int set) {
            for (int m = 0; m < size; m++) {
                if ((set >>> m & 1) == 0 && (sourceSets[m] & ~set) == 0) {
                    int then = set | 1 << m;
                    roads[then] = Math.min(roads[then], roads[set]);
                }
            }
        }
    }
}
