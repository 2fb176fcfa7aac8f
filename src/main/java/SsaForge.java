import java.util.NoSuchElementException;

/**
 * A middle of a compiler: reads the rows of a function, puts them into a form in which each register
 * is set once, changes them by passes, brings them back and runs them at any time.
 */
public final class SsaForge {
    private static final int MAX_TAPE = 8192;
    private static final int FEED_BYTES = 20;
    private static final int MAX_RESULT = 65536;
    private static final int MAX_FUEL = 100000;
    private static final int MAX_SHOWN = 512;

    private static final int TEXT_ROWS = 200;
    private static final int TEXT_REGISTERS = 200;
    private static final int TEXT_BLOCKS = 60;

    private static final int MAX_BLOCKS = 300;
    private static final int MAX_ROWS = 2000;
    private static final int MAX_SET = 1000;
    /** A text's block has at most 60 PREDS, and nothing that is done later gives a block more. */
    private static final int MAX_ARGS = MAX_SET * TEXT_BLOCKS;
    /** Few functions need more, and an object should be small: the rest comes when it is asked for. */
    private static final int FIRST_ARGS = 4096;
    private static final int FIRST_RESULT = 4096;
    /** v0 to v999, and the one register that PLAIN may need beside them. */
    private static final int REGISTER_WORDS = 16;
    private static final int REGISTER_ROOM = 64 * REGISTER_WORDS;
    private static final int BLOCK_WORDS = 5;
    /** Stands far above the rounds that any search for a fixed point can need. */
    private static final int ROUNDS = 1000000;

    private static final int NO_PROGRAM = -1;
    private static final int PLAIN = 0;
    private static final int SSA = 1;
    private static final int COLOURED = 2;

    private static final int GONE = -1;
    private static final int COPY = 0;
    private static final int IN = 1;
    private static final int SHOW = 2;
    private static final int ADD = 3;
    private static final int SUB = 4;
    private static final int MUL = 5;
    private static final int DIV = 6;
    private static final int REM = 7;
    private static final int AND = 8;
    private static final int OR = 9;
    private static final int XOR = 10;
    private static final int SHL = 11;
    private static final int SHR = 12;
    private static final int LESS = 13;
    private static final int AT_MOST = 14;
    private static final int SAME = 15;
    private static final int DIFFERENT = 16;

    private static final int JUMP = 0;
    private static final int IF = 1;
    private static final int RET = 2;

    /** An operand is a long: a number is itself, a register is this and its number. */
    private static final long REGISTER = 1L << 32;
    private static final long NO_OPERAND = 1L << 40;

    private final byte[] tape = new byte[MAX_TAPE];
    private int tapeLength = 0;
    private int form = NO_PROGRAM;
    private Code code = new Code();
    private Code spare = new Code();
    private final Flow flow = new Flow();
    private boolean flowKnown = false;
    private final Live live = new Live();
    private boolean liveKnown = false;
    private final Reader reader = new Reader();
    private final SsaMaker ssaMaker = new SsaMaker();
    private final Constants constants = new Constants();
    private final Likes likes = new Likes();
    private final Tidier tidier = new Tidier();
    private final WayOut wayOut = new WayOut();
    private final Machine machine = new Machine();
    private final Printer printer = new Printer();

    public SsaForge() {
    }

    public int feed(int a, int b, int c, int d, int e) throws IndexOutOfBoundsException {
        if (tapeLength + FEED_BYTES > MAX_TAPE) {
            throw new IndexOutOfBoundsException("the tape is full");
        }
        putOnTape(a);
        putOnTape(b);
        putOnTape(c);
        putOnTape(d);
        putOnTape(e);
        return tapeLength;
    }

    public int end(int n) throws IllegalArgumentException {
        if (n < 0 || n > tapeLength) {
            throw new IllegalArgumentException("not a length of the tape");
        }
        tapeLength = n;
        return n;
    }

    public int text() {
        int place = reader.readAll(tape, tapeLength, code);
        tapeLength = 0;
        form = place < 0 ? PLAIN : NO_PROGRAM;
        flowKnown = false;
        liveKnown = false;
        return place;
    }

    public int input() {
        machine.takeInput(tape, tapeLength);
        tapeLength = 0;
        return machine.inputLength;
    }

    public int ssa() throws IllegalStateException, ArithmeticException {
        if (form != PLAIN) {
            throw new IllegalStateException("no plain program");
        }
        learnFlow();
        tidier.keepReached(code, spare, flow);
        flowKnown = false;
        liveKnown = false;
        flow.study(spare);
        live.study(spare);
        if (!ssaMaker.make(spare, flow, live)) {
            throw new ArithmeticException("too many registers or rows");
        }
        swapCodes();
        form = SSA;
        flowKnown = true;
        return code.phis;
    }

    public int pass(int k) throws IllegalArgumentException, IllegalStateException {
        if (k < 1 || k > 7) {
            throw new IllegalArgumentException("no such pass");
        }
        if (form != SSA) {
            throw new IllegalStateException("no program that is ssa");
        }
        learnFlow();
        liveKnown = false;
        switch (k) {
            case 1:
                return foldConstants();
            case 2:
                return likes.replaceAll(code, flow);
            case 3:
                return tidier.dropDead(code);
            case 4:
                return tidier.emptyLoops(code, flow);
            case 5:
                return joinBlocks();
            case 6:
                return ssaMaker.renumber(code, flow);
            default:
                live.study(code);
                form = COLOURED;
                return wayOut.paint(code, flow, live);
        }
    }

    public int plain() throws IllegalStateException, ArithmeticException {
        if (form != SSA && form != COLOURED) {
            throw new IllegalStateException("no program that is ssa or coloured");
        }
        int came = wayOut.level(code, spare);
        if (came < 0) {
            throw new ArithmeticException("too many rows or blocks");
        }
        swapCodes();
        form = PLAIN;
        return came;
    }

    public int run(int fuel) throws IllegalArgumentException, IllegalStateException {
        if (fuel < 1 || fuel > MAX_FUEL) {
            throw new IllegalArgumentException("fuel is not 1 to 100000");
        }
        if (form == NO_PROGRAM) {
            throw new IllegalStateException("no program");
        }
        machine.start(code, fuel);
        return machine.ending;
    }

    public int told(int what) throws IllegalArgumentException {
        switch (what) {
            case 0:
                return machine.answer;
            case 1:
                return machine.shownCount;
            case 2:
                return machine.steps;
            case 3:
                return machine.inputRead;
            case 4:
                return machine.ending;
            default:
                throw new IllegalArgumentException("nothing is told of that");
        }
    }

    public int shown(int i) throws IndexOutOfBoundsException {
        if (i < 0 || i >= machine.shownCount) {
            throw new IndexOutOfBoundsException("not so many were shown");
        }
        return machine.shownInts[i];
    }

    public int count(int what) throws IllegalArgumentException {
        if (what < 0 || what > 7) {
            throw new IllegalArgumentException("nothing to count");
        }
        switch (what) {
            case 0:
                return form;
            case 5:
                return reader.reason;
            case 6:
                return printer.length;
            case 7:
                return tapeLength;
            default:
                return form == NO_PROGRAM ? 0 : countOfProgram(what);
        }
    }

    public int block(int b, int what) throws IllegalArgumentException, NoSuchElementException {
        if (what < 0 || what > 4) {
            throw new IllegalArgumentException("nothing is known of that");
        }
        if (form == NO_PROGRAM || b < 0 || b >= code.blocks) {
            throw new NoSuchElementException("no such block");
        }
        switch (what) {
            case 0:
                learnFlow();
                return flow.idom[b];
            case 1:
                return code.predCount(b);
            case 2:
                learnFlow();
                return flow.frontierSize(b);
            case 3:
                learnLive();
                return live.sizeAtStart(b);
            default:
                learnFlow();
                return flow.innermostHead(code, b);
        }
    }

    public int list() throws IllegalStateException {
        if (form == NO_PROGRAM) {
            throw new IllegalStateException("no program");
        }
        if (printer.measure(code) > MAX_RESULT) {
            throw new IllegalStateException("the listing is too long");
        }
        printer.write(code);
        return printer.length;
    }

    public long word(int i) throws IndexOutOfBoundsException {
        if (i < 0 || i >= printer.length) {
            throw new IndexOutOfBoundsException("none of the bytes of the result");
        }
        return printer.eightBytes(i);
    }

    private void putOnTape(int value) {
        tape[tapeLength] = (byte) (value >> 24);
        tape[tapeLength + 1] = (byte) (value >> 16);
        tape[tapeLength + 2] = (byte) (value >> 8);
        tape[tapeLength + 3] = (byte) value;
        tapeLength += 4;
    }

    private int foldConstants() {
        int changes = constants.fold(code, flow);
        tidier.keepSome(code, spare, constants.gone);
        swapCodes();
        return changes;
    }

    private int joinBlocks() {
        int joins = tidier.findJoins(code);
        tidier.gather(code, spare);
        swapCodes();
        return joins + tidier.straightenIfs(code);
    }

    private int countOfProgram(int what) {
        switch (what) {
            case 1:
                return code.blocks;
            case 2:
                return code.rows;
            case 3:
                return code.phis;
            default:
                learnLive();
                return live.peak(code);
        }
    }

    private void swapCodes() {
        Code old = code;
        code = spare;
        spare = old;
        flowKnown = false;
        liveKnown = false;
    }

    private void learnFlow() {
        if (!flowKnown) {
            flow.study(code);
            flowKnown = true;
        }
    }

    private void learnLive() {
        if (!liveKnown) {
            live.study(code);
            liveKnown = true;
        }
    }

    private static boolean isRegister(long operand) {
        return operand >= REGISTER && operand < NO_OPERAND;
    }

    private static boolean isNumber(long operand) {
        return operand < REGISTER;
    }

    private static int registerOf(long operand) {
        return (int) (operand - REGISTER);
    }

    private static boolean divides(int op) {
        return op == DIV || op == REM;
    }

    /** A division that may end a run must stay and must not be done earlier. */
    private static boolean mayFail(int op, long divisor) {
        return divides(op) && (divisor == 0 || isRegister(divisor));
    }

    /** What an op gives; callers keep divisions by 0 away, which would have no answer. */
    private static int compute(int op, int a, int b) {
        switch (op) {
            case ADD:
                return a + b;
            case SUB:
                return a - b;
            case MUL:
                return a * b;
            case DIV:
                return b == 0 ? 0 : a / b;
            case REM:
                return b == 0 ? 0 : a % b;
            case AND:
                return a & b;
            case OR:
                return a | b;
            case XOR:
                return a ^ b;
            case SHL:
                return a << (b & 31);
            case SHR:
                return a >> (b & 31);
            case LESS:
                return a < b ? 1 : 0;
            case AT_MOST:
                return a <= b ? 1 : 0;
            case SAME:
                return a == b ? 1 : 0;
            case DIFFERENT:
                return a != b ? 1 : 0;
            default:
                return a;
        }
    }

    private static boolean hasBit(long[] bits, int from, int i) {
        return (bits[from + (i >> 6)] >>> (i & 63) & 1L) != 0;
    }

    private static void putBit(long[] bits, int from, int i) {
        bits[from + (i >> 6)] |= 1L << (i & 63);
    }

    private static void takeBit(long[] bits, int from, int i) {
        bits[from + (i >> 6)] &= ~(1L << (i & 63));
    }

    private static int countBits(long[] bits, int from, int words) {
        int sum = 0;
        for (int w = 0; w < words; w++) {
            sum += Long.bitCount(bits[from + w]);
        }
        return sum;
    }

    private static int lowestBit(long word) {
        return Long.bitCount((word & -word) - 1);
    }

    private static void clearBits(long[] bits, int size) {
        for (int i = 0; i < size; i++) {
            bits[i] = 0;
        }
    }

    /** Follows replacements to their end: what a replaced register has may have been replaced too. */
    private static long resolve(long operand, long[] instead) {
        long last = operand;
        for (int n = 0; n < MAX_SET && isRegister(last); n++) {
            long next = instead[registerOf(last)];
            if (next == NO_OPERAND) {
                return last;
            }
            last = next;
        }
        return last;
    }

    /** The blocks, rows and phis of a function; rows and phis of a block lie side by side, blocks in order. */
    private static final class Code {
        int blocks = 0;
        int rows = 0;
        int phis = 0;
        int argCount = 0;
        final int[] rowStart = new int[MAX_BLOCKS + 1];
        final int[] op = new int[MAX_ROWS];
        final int[] target = new int[MAX_ROWS];
        final long[] left = new long[MAX_ROWS];
        final long[] right = new long[MAX_ROWS];
        final int[] endKind = new int[MAX_BLOCKS];
        final long[] endUse = new long[MAX_BLOCKS];
        final int[] goalOne = new int[MAX_BLOCKS];
        final int[] goalTwo = new int[MAX_BLOCKS];
        final int[] predStart = new int[MAX_BLOCKS + 1];
        final int[] preds = new int[2 * MAX_BLOCKS];
        final int[] phiStart = new int[MAX_BLOCKS + 1];
        final int[] phiTarget = new int[MAX_SET];
        /** A phi's operands stand in the order of its block's preds. */
        final int[] argStart = new int[MAX_SET];
        long[] args = new long[FIRST_ARGS];

        void clear() {
            blocks = 0;
            rows = 0;
            phis = 0;
            argCount = 0;
            rowStart[0] = 0;
            phiStart[0] = 0;
        }

        /** Makes room for operands of phis; those that were there are lost. At least doubled, it is seldom made. */
        void openArgs(int room) {
            if (room > args.length) {
                args = new long[Math.max(room, Math.min(2 * room, MAX_ARGS))];
            }
        }

        boolean addRow(int rowOp, int set, long a, long b) {
            if (rows >= MAX_ROWS) {
                return false;
            }
            putRow(rows, rowOp, set, a, b);
            rows++;
            return true;
        }

        void putRow(int row, int rowOp, int set, long a, long b) {
            op[row] = rowOp;
            target[row] = set;
            left[row] = a;
            right[row] = b;
        }

        boolean addRowsOf(Code from, int b) {
            for (int i = from.rowStart[b]; i < from.rowStart[b + 1]; i++) {
                if (!addRow(from.op[i], from.target[i], from.left[i], from.right[i])) {
                    return false;
                }
            }
            return true;
        }

        boolean closeBlock(int kind, long use, int one, int two) {
            if (blocks >= MAX_BLOCKS) {
                return false;
            }
            endKind[blocks] = kind;
            endUse[blocks] = use;
            goalOne[blocks] = one;
            goalTwo[blocks] = two;
            blocks++;
            rowStart[blocks] = rows;
            phiStart[blocks] = phis;
            return true;
        }

        int goalCount(int b) {
            if (endKind[b] == RET) {
                return 0;
            }
            return goalOne[b] == goalTwo[b] ? 1 : 2;
        }

        int goal(int b, int i) {
            return i == 0 ? goalOne[b] : goalTwo[b];
        }

        int phiCount(int b) {
            return phiStart[b + 1] - phiStart[b];
        }

        int predCount(int b) {
            return predStart[b + 1] - predStart[b];
        }

        int predIndex(int b, int pred) {
            for (int i = predStart[b]; i < predStart[b + 1]; i++) {
                if (preds[i] == pred) {
                    return i - predStart[b];
                }
            }
            return -1;
        }

        /** Blocks are gone through by number, so each list of preds is in order by itself. */
        void findPreds() {
            for (int b = 0; b <= blocks; b++) {
                predStart[b] = 0;
            }
            for (int b = 0; b < blocks; b++) {
                for (int i = 0; i < goalCount(b); i++) {
                    predStart[goal(b, i)]++;
                }
            }
            int sum = 0;
            for (int b = 0; b <= blocks; b++) {
                int here = predStart[b];
                predStart[b] = sum;
                sum += here;
            }
            for (int b = 0; b < blocks; b++) {
                for (int i = 0; i < goalCount(b); i++) {
                    int g = goal(b, i);
                    preds[predStart[g]] = b;
                    predStart[g]++;
                }
            }
            for (int b = blocks; b > 0; b--) {
                predStart[b] = predStart[b - 1];
            }
            predStart[0] = 0;
        }

        /** One more than the greatest number of a register that is set or used. */
        int registerLimit() {
            long top = REGISTER - 1;
            for (int i = 0; i < rows; i++) {
                top = greater(top, REGISTER + target[i]);
                top = greater(top, left[i]);
                top = greater(top, right[i]);
            }
            for (int b = 0; b < blocks; b++) {
                top = greater(top, endUse[b]);
                for (int i = phiStart[b]; i < phiStart[b + 1]; i++) {
                    top = greater(top, REGISTER + phiTarget[i]);
                    for (int k = 0; k < predCount(b); k++) {
                        top = greater(top, args[argStart[i] + k]);
                    }
                }
            }
            return registerOf(top) + 1;
        }

        private static long greater(long top, long operand) {
            return operand > top && isRegister(operand) ? operand : top;
        }

        /** Drops the rows and phis that are marked as gone, and answers how many. */
        int sweep() {
            int before = rows + phis;
            int rowAt = 0;
            int phiAt = 0;
            rows = 0;
            phis = 0;
            for (int b = 0; b < blocks; b++) {
                for (; rowAt < rowStart[b + 1]; rowAt++) {
                    if (op[rowAt] != GONE) {
                        addRow(op[rowAt], target[rowAt], left[rowAt], right[rowAt]);
                    }
                }
                rowStart[b + 1] = rows;
                for (; phiAt < phiStart[b + 1]; phiAt++) {
                    if (phiTarget[phiAt] != GONE) {
                        phiTarget[phis] = phiTarget[phiAt];
                        argStart[phis] = argStart[phiAt];
                        phis++;
                    }
                }
                phiStart[b + 1] = phis;
            }
            return before - rows - phis;
        }

        /** Puts what stands instead of registers in all rows, ends and phis that use them. */
        void substitute(long[] instead) {
            for (int i = 0; i < rows; i++) {
                left[i] = resolve(left[i], instead);
                right[i] = resolve(right[i], instead);
            }
            for (int b = 0; b < blocks; b++) {
                endUse[b] = resolve(endUse[b], instead);
            }
            substituteInPhis(instead);
        }

        void substituteInPhis(long[] instead) {
            for (int b = 0; b < blocks; b++) {
                for (int i = phiStart[b]; i < phiStart[b + 1]; i++) {
                    for (int k = argStart[i]; k < argStart[i] + predCount(b); k++) {
                        args[k] = resolve(args[k], instead);
                    }
                }
            }
        }

        /** Makes room for rows in front of all others. */
        void openFront(int room) {
            shiftRows(0, room, rows);
            rows += room;
            for (int b = 1; b <= blocks; b++) {
                rowStart[b] += room;
            }
        }

        void moveRowToEnd(int row, int fromBlock, int toBlock) {
            int rowOp = op[row];
            int set = target[row];
            long a = left[row];
            long b = right[row];
            int place = rowStart[toBlock + 1];
            if (toBlock < fromBlock) {
                shiftRows(place, place + 1, row - place);
                for (int q = toBlock + 1; q <= fromBlock; q++) {
                    rowStart[q]++;
                }
            } else {
                place--;
                shiftRows(row + 1, row, place - row);
                for (int q = fromBlock + 1; q <= toBlock; q++) {
                    rowStart[q]--;
                }
            }
            putRow(place, rowOp, set, a, b);
        }

        private void shiftRows(int from, int to, int length) {
            if (length > 0 && from + length <= MAX_ROWS && to + length <= MAX_ROWS) {
                System.arraycopy(op, from, op, to, length);
                System.arraycopy(target, from, target, to, length);
                System.arraycopy(left, from, left, to, length);
                System.arraycopy(right, from, right, to, length);
            }
        }
    }

    /** Reads a text sign by sign, in one go, with a state that says what may come next. */
    private static final class Reader {
        private static final int BAD = 0;
        private static final int TEXT_END = 1;
        private static final int REGISTER_SIGN = 2;
        private static final int NUMBER_SIGN = 3;
        private static final int BLOCK_SIGN = 4;
        private static final int IN_SIGN = 5;
        private static final int SHOW_SIGN = 6;
        private static final int IF_SIGN = 7;
        private static final int JUMP_SIGN = 8;
        private static final int RET_SIGN = 9;
        private static final int COLON = 10;
        private static final int ASSIGN = 11;
        private static final int OPERATOR = 12;
        /** Signs of the language that no text may hold: phi ( ) and the comma. */
        private static final int UNUSED = 13;

        private static final int WANT_LABEL = 0;
        private static final int WANT_COLON = 1;
        private static final int WANT_ROW = 2;
        private static final int WANT_ASSIGN = 3;
        private static final int WANT_VALUE = 4;
        private static final int WANT_OPERATOR = 5;
        private static final int WANT_RIGHT = 6;
        private static final int WANT_SHOWN = 7;
        private static final int WANT_JUMP = 8;
        private static final int WANT_TEST = 9;
        private static final int WANT_FIRST = 10;
        private static final int WANT_SECOND = 11;
        private static final int WANT_ANSWER = 12;

        private static final long TOO_GREAT = 1L << 32;

        int reason = 0;
        private byte[] bytes = new byte[0];
        private int length = 0;
        private int at = 0;
        private int kind = TEXT_END;
        private int place = 0;
        private int value = 0;
        private int state = WANT_LABEL;
        private Code code = null;
        private int rowCount = 0;
        private int blockCount = 0;
        private int rowTarget = 0;
        private int rowOp = COPY;
        private long operand = 0;
        private int firstGoal = 0;
        private int brokenPlace = -1;
        private final boolean[] labelled = new boolean[TEXT_BLOCKS];
        private final int[] goalPlace = new int[TEXT_BLOCKS];

        /** Answers -1, or the place where the text is wrong, with its reason beside it. */
        int readAll(byte[] text, int textLength, Code into) {
            begin(text, textLength, into);
            for (int n = 0; n <= textLength; n++) {
                scan();
                if (kind == TEXT_END) {
                    break;
                }
                if (!takeSign()) {
                    reason = 1;
                    return place;
                }
            }
            if (state != WANT_LABEL || blockCount == 0) {
                reason = 1;
                return textLength;
            }
            checkGoals();
            if (brokenPlace < 0) {
                into.findPreds();
            }
            return brokenPlace;
        }

        private void begin(byte[] text, int textLength, Code into) {
            bytes = text;
            length = textLength;
            code = into;
            at = 0;
            kind = TEXT_END;
            state = WANT_LABEL;
            rowCount = 0;
            blockCount = 0;
            brokenPlace = -1;
            reason = 0;
            into.clear();
            for (int b = 0; b < TEXT_BLOCKS; b++) {
                labelled[b] = false;
                goalPlace[b] = -1;
            }
        }

        private int byteAt(int i) {
            return i < length ? bytes[i] & 255 : -1;
        }

        private boolean digitAt(int i) {
            int c = byteAt(i);
            return c >= '0' && c <= '9';
        }

        private boolean letterAt(int i) {
            int c = byteAt(i);
            return c >= 'a' && c <= 'z';
        }

        private void scan() {
            boolean behindOperand = kind == REGISTER_SIGN || kind == NUMBER_SIGN;
            skipBlanks();
            place = at;
            if (at >= length) {
                kind = TEXT_END;
            } else if (letterAt(at)) {
                scanWord();
            } else if (digitAt(at) || !behindOperand && byteAt(at) == '-' && digitAt(at + 1)) {
                scanNumber();
            } else {
                scanMark();
            }
        }

        private void skipBlanks() {
            boolean remark = false;
            for (; at < length; at++) {
                int c = byteAt(at);
                if (c == 10) {
                    remark = false;
                } else if (c == ';') {
                    remark = true;
                } else if (!remark && c != 9 && c != 13 && c != 32) {
                    return;
                }
            }
        }

        private void scanWord() {
            for (; at < length && letterAt(at); at++) {
                value = byteAt(at);
            }
            boolean lone = at == place + 1;
            if (lone && value == 'v' && digitAt(at)) {
                scanNamed(REGISTER_SIGN, TEXT_REGISTERS);
            } else if (lone && value == 'b' && digitAt(at)) {
                scanNamed(BLOCK_SIGN, TEXT_BLOCKS);
            } else {
                kind = wordKind();
            }
        }

        private void scanNamed(int namedKind, int limit) {
            long number = digits();
            value = number < limit ? (int) number : 0;
            kind = number < limit ? namedKind : BAD;
        }

        private int wordKind() {
            if (spells("in")) {
                return IN_SIGN;
            }
            if (spells("show")) {
                return SHOW_SIGN;
            }
            if (spells("if")) {
                return IF_SIGN;
            }
            if (spells("jump")) {
                return JUMP_SIGN;
            }
            if (spells("ret")) {
                return RET_SIGN;
            }
            return spells("phi") ? UNUSED : BAD;
        }

        private boolean spells(String word) {
            if (at - place != word.length()) {
                return false;
            }
            for (int i = 0; i < word.length(); i++) {
                if (byteAt(place + i) != word.charAt(i)) {
                    return false;
                }
            }
            return true;
        }

        /** Reads digits; what is too great for any sign stays at a number that is. */
        private long digits() {
            long number = 0;
            for (; at < length && digitAt(at); at++) {
                number = Math.min(number * 10 + (byteAt(at) - '0'), TOO_GREAT);
            }
            return number;
        }

        private void scanNumber() {
            boolean minus = byteAt(at) == '-';
            if (minus) {
                at++;
            }
            long number = minus ? -digits() : digits();
            value = (int) number;
            kind = value == number ? NUMBER_SIGN : BAD;
        }

        private void scanMark() {
            int c = byteAt(at);
            int next = byteAt(at + 1);
            int marked = markOperator(c, next);
            at++;
            if (marked != GONE) {
                kind = OPERATOR;
                value = marked;
                if (marked >= SHL && marked != LESS) {
                    at++;
                }
            } else if (c == ':') {
                kind = COLON;
            } else if (c == '=') {
                kind = ASSIGN;
            } else {
                kind = c == '(' || c == ')' || c == ',' ? UNUSED : BAD;
            }
        }

        private static int markOperator(int c, int next) {
            switch (c) {
                case '+':
                    return ADD;
                case '-':
                    return SUB;
                case '*':
                    return MUL;
                case '/':
                    return DIV;
                case '%':
                    return REM;
                case '&':
                    return AND;
                case '|':
                    return OR;
                case '^':
                    return XOR;
                case '<':
                    return next == '<' ? SHL : next == '=' ? AT_MOST : LESS;
                case '>':
                    return next == '>' ? SHR : GONE;
                case '=':
                    return next == '=' ? SAME : GONE;
                case '!':
                    return next == '=' ? DIFFERENT : GONE;
                default:
                    return GONE;
            }
        }

        /** Takes the sign if it can stand here. */
        private boolean takeSign() {
            switch (state) {
                case WANT_LABEL:
                    return takeLabel();
                case WANT_COLON:
                    return goOn(kind == COLON, WANT_ROW);
                case WANT_ROW:
                    return takeRowOrEnd();
                case WANT_ASSIGN:
                    return goOn(kind == ASSIGN, WANT_VALUE);
                case WANT_VALUE:
                    return takeValue();
                case WANT_OPERATOR:
                    return takeOperator();
                case WANT_RIGHT:
                    return takeRight();
                case WANT_SHOWN:
                    return takeShown();
                case WANT_TEST:
                    return takeOperand() && goOn(true, WANT_FIRST);
                case WANT_ANSWER:
                    return takeAnswer();
                default:
                    return takeGoal();
            }
        }

        private boolean goOn(boolean fits, int next) {
            if (fits) {
                state = next;
            }
            return fits;
        }

        private void breakRule(int rule) {
            if (brokenPlace < 0) {
                brokenPlace = place;
                reason = rule;
            }
        }

        private boolean takeLabel() {
            if (kind != BLOCK_SIGN) {
                return false;
            }
            if (value != blockCount) {
                breakRule(2);
            }
            labelled[value] = true;
            blockCount++;
            return goOn(true, WANT_COLON);
        }

        private boolean takeRowOrEnd() {
            switch (kind) {
                case REGISTER_SIGN:
                    countRow();
                    rowTarget = value;
                    return goOn(true, WANT_ASSIGN);
                case SHOW_SIGN:
                    countRow();
                    return goOn(true, WANT_SHOWN);
                case JUMP_SIGN:
                    return goOn(true, WANT_JUMP);
                case IF_SIGN:
                    return goOn(true, WANT_TEST);
                default:
                    return goOn(kind == RET_SIGN, WANT_ANSWER);
            }
        }

        private void countRow() {
            rowCount++;
            if (rowCount > TEXT_ROWS) {
                breakRule(4);
            }
        }

        private boolean takeOperand() {
            if (kind == REGISTER_SIGN) {
                operand = REGISTER + value;
                return true;
            }
            operand = value;
            return kind == NUMBER_SIGN;
        }

        private boolean takeValue() {
            if (kind == IN_SIGN) {
                keepRow(IN, rowTarget, NO_OPERAND, NO_OPERAND);
                return goOn(true, WANT_ROW);
            }
            return takeOperand() && goOn(true, WANT_OPERATOR);
        }

        private boolean takeOperator() {
            if (kind == OPERATOR) {
                rowOp = value;
                return goOn(true, WANT_RIGHT);
            }
            keepRow(COPY, rowTarget, operand, NO_OPERAND);
            return takeRowOrEnd();
        }

        private boolean takeRight() {
            long first = operand;
            if (!takeOperand()) {
                return false;
            }
            keepRow(rowOp, rowTarget, first, operand);
            return goOn(true, WANT_ROW);
        }

        private boolean takeShown() {
            if (!takeOperand()) {
                return false;
            }
            keepRow(SHOW, -1, operand, NO_OPERAND);
            return goOn(true, WANT_ROW);
        }

        private boolean takeAnswer() {
            if (!takeOperand()) {
                return false;
            }
            keepEnd(RET, operand, -1, -1);
            return goOn(true, WANT_LABEL);
        }

        private boolean takeGoal() {
            if (kind != BLOCK_SIGN) {
                return false;
            }
            if (goalPlace[value] < 0) {
                goalPlace[value] = place;
            }
            if (state == WANT_FIRST) {
                firstGoal = value;
                return goOn(true, WANT_SECOND);
            }
            if (state == WANT_JUMP) {
                keepEnd(JUMP, NO_OPERAND, value, value);
            } else {
                keepEnd(IF, operand, firstGoal, value);
            }
            return goOn(true, WANT_LABEL);
        }

        /** A text that has broken a rule is only read on for its signs: it may be far too long to keep. */
        private void keepRow(int op, int set, long a, long b) {
            if (brokenPlace < 0 && code != null) {
                code.addRow(op, set, a, b);
            }
        }

        private void keepEnd(int endKind, long use, int one, int two) {
            if (brokenPlace < 0 && code != null) {
                code.closeBlock(endKind, use, one, two);
            }
        }

        /** Which blocks there are is known only now; the first wrong goal may stand before another fault. */
        private void checkGoals() {
            for (int b = 0; b < TEXT_BLOCKS; b++) {
                boolean wrong = goalPlace[b] >= 0 && (b == 0 || !isBlocks(b));
                if (wrong && (brokenPlace < 0 || goalPlace[b] < brokenPlace)) {
                    brokenPlace = goalPlace[b];
                    reason = 3;
                }
            }
        }

        /** Where a label is wrong, it alone is the fault: its block can be meant by what it bears or should bear. */
        private boolean isBlocks(int goal) {
            return labelled[goal] || goal < blockCount;
        }
    }

    /** What the ways of a function tell: who is reached, who dominates whom, frontiers and loops. */
    private static final class Flow {
        int reached = 0;
        final int[] idom = new int[MAX_BLOCKS];
        final int[] order = new int[MAX_BLOCKS];
        final boolean[] inLoop = new boolean[MAX_BLOCKS];
        private final int[] place = new int[MAX_BLOCKS];
        private final int[] span = new int[MAX_BLOCKS];
        private final long[] frontier = new long[MAX_BLOCKS * BLOCK_WORDS];
        private final int[] stack = new int[2 * MAX_BLOCKS];
        private final int[] nextGoal = new int[MAX_BLOCKS];
        private final int[] post = new int[MAX_BLOCKS];
        private final int[] byPost = new int[MAX_BLOCKS];
        private final int[] firstChild = new int[MAX_BLOCKS];
        private final int[] nextChild = new int[MAX_BLOCKS];

        void study(Code c) {
            walk(c);
            findIdoms(c);
            makeOrder(c);
            findFrontiers(c);
        }

        boolean isReached(int b) {
            return place[b] >= 0;
        }

        boolean dominates(int a, int b) {
            return place[a] >= 0 && place[b] >= place[a] && place[b] < place[a] + span[a];
        }

        boolean inFrontier(int a, int b) {
            return hasBit(frontier, a * BLOCK_WORDS, b);
        }

        int frontierSize(int b) {
            return countBits(frontier, b * BLOCK_WORDS, BLOCK_WORDS);
        }

        /** Numbers the reached blocks as a walk in depth leaves them. */
        private void walk(Code c) {
            for (int b = 0; b < c.blocks; b++) {
                nextGoal[b] = -1;
                post[b] = -1;
            }
            reached = 0;
            int depth = 1;
            stack[0] = 0;
            nextGoal[0] = 0;
            for (int n = 0; depth > 0 && n < ROUNDS; n++) {
                int b = stack[depth - 1];
                if (nextGoal[b] < c.goalCount(b)) {
                    int g = c.goal(b, nextGoal[b]);
                    nextGoal[b]++;
                    if (nextGoal[g] < 0) {
                        nextGoal[g] = 0;
                        stack[depth] = g;
                        depth++;
                    }
                } else {
                    depth--;
                    post[b] = reached;
                    byPost[reached] = b;
                    reached++;
                }
            }
        }

        private void findIdoms(Code c) {
            for (int b = 0; b < c.blocks; b++) {
                idom[b] = -2;
            }
            idom[0] = 0;
            boolean changed = true;
            for (int round = 0; changed && round < ROUNDS; round++) {
                changed = false;
                for (int i = reached - 2; i >= 0; i--) {
                    int b = byPost[i];
                    int found = meetOfPreds(c, b);
                    if (found != idom[b]) {
                        idom[b] = found;
                        changed = true;
                    }
                }
            }
            idom[0] = -1;
        }

        private int meetOfPreds(Code c, int b) {
            int found = -2;
            for (int i = c.predStart[b]; i < c.predStart[b + 1]; i++) {
                int p = c.preds[i];
                if (idom[p] >= 0) {
                    found = found < 0 ? p : meet(p, found);
                }
            }
            return found;
        }

        /** Both climb: an idom has always the greater number. */
        private int meet(int a, int b) {
            int one = a;
            int two = b;
            for (int n = 0; one != two && n < 2 * MAX_BLOCKS; n++) {
                if (post[one] < post[two]) {
                    one = idom[one];
                } else {
                    two = idom[two];
                }
            }
            return one;
        }

        private void makeOrder(Code c) {
            for (int b = 0; b < c.blocks; b++) {
                firstChild[b] = 0;
                place[b] = -1;
                span[b] = 1;
            }
            for (int b = 1; b < c.blocks; b++) {
                if (idom[b] >= 0) {
                    nextChild[b] = firstChild[idom[b]];
                    firstChild[idom[b]] = b;
                }
            }
            int depth = 1;
            stack[0] = 0;
            for (int n = 0; n < reached; n++) {
                depth--;
                int b = stack[depth];
                order[n] = b;
                place[b] = n;
                // children come from the greatest to the least, so that the least is on top of the stack
                int child = firstChild[b];
                for (int k = 0; child > 0 && k < MAX_BLOCKS; k++) {
                    stack[depth] = child;
                    depth++;
                    child = nextChild[child];
                }
            }
            for (int n = reached - 1; n > 0; n--) {
                span[idom[order[n]]] += span[order[n]];
            }
        }

        private void findFrontiers(Code c) {
            clearBits(frontier, c.blocks * BLOCK_WORDS);
            for (int b = 0; b < c.blocks; b++) {
                if (!isReached(b)) {
                    continue;
                }
                for (int i = 0; i < c.goalCount(b); i++) {
                    int g = c.goal(b, i);
                    int a = b;
                    for (int n = 0; a >= 0 && a != idom[g] && n < MAX_BLOCKS; n++) {
                        putBit(frontier, a * BLOCK_WORDS, g);
                        a = idom[a];
                    }
                }
            }
        }

        /** Marks the blocks of the loop with this head, and answers how many: 0 if it is no head. */
        int markLoop(Code c, int head) {
            for (int b = 0; b < c.blocks; b++) {
                inLoop[b] = false;
            }
            if (!isReached(head)) {
                return 0;
            }
            int size = 0;
            int depth = 0;
            for (int i = c.predStart[head]; i < c.predStart[head + 1]; i++) {
                int p = c.preds[i];
                if (dominates(head, p)) {
                    if (!inLoop[head]) {
                        inLoop[head] = true;
                        size++;
                    }
                    if (!inLoop[p]) {
                        inLoop[p] = true;
                        size++;
                        stack[depth] = p;
                        depth++;
                    }
                }
            }
            return size + floodBack(c, depth);
        }

        private int floodBack(Code c, int start) {
            int more = 0;
            int depth = start;
            for (int n = 0; depth > 0 && n < MAX_BLOCKS; n++) {
                depth--;
                int b = stack[depth];
                for (int i = c.predStart[b]; i < c.predStart[b + 1]; i++) {
                    int p = c.preds[i];
                    if (isReached(p) && !inLoop[p]) {
                        inLoop[p] = true;
                        more++;
                        stack[depth] = p;
                        depth++;
                    }
                }
            }
            return more;
        }

        int innermostHead(Code c, int b) {
            int best = -1;
            int bestSize = MAX_BLOCKS + 1;
            for (int head = 0; head < c.blocks; head++) {
                int size = markLoop(c, head);
                if (size > 0 && inLoop[b] && size <= bestSize) {
                    best = head;
                    bestSize = size;
                }
            }
            return best;
        }
    }

    /** Which registers are live where: sets of bits, one row of words for each block. */
    private static final class Live {
        int words = 0;
        /** Behind the phis of a block, in front of its first row. */
        final long[] start = new long[MAX_BLOCKS * REGISTER_WORDS];
        final long[] finish = new long[MAX_BLOCKS * REGISTER_WORDS];
        final long[] sets = new long[MAX_BLOCKS * REGISTER_WORDS];
        private final long[] uses = new long[MAX_BLOCKS * REGISTER_WORDS];
        private final long[] phiSets = new long[MAX_BLOCKS * REGISTER_WORDS];
        private final long[] phiUses = new long[MAX_BLOCKS * REGISTER_WORDS];
        private final long[] now = new long[REGISTER_WORDS];

        void study(Code c) {
            words = (c.registerLimit() + 63) >> 6;
            int size = c.blocks * words;
            clearBits(start, size);
            clearBits(finish, size);
            clearBits(sets, size);
            clearBits(uses, size);
            clearBits(phiSets, size);
            clearBits(phiUses, size);
            for (int b = 0; b < c.blocks; b++) {
                noteRows(c, b);
                notePhis(c, b);
            }
            boolean changed = true;
            for (int round = 0; changed && round < ROUNDS; round++) {
                changed = false;
                for (int b = c.blocks - 1; b >= 0; b--) {
                    if (flowBack(c, b)) {
                        changed = true;
                    }
                }
            }
        }

        int sizeAtStart(int b) {
            return countBits(start, b * words, words);
        }

        private void noteRows(Code c, int b) {
            for (int i = c.rowStart[b]; i < c.rowStart[b + 1]; i++) {
                noteUse(b, c.left[i]);
                noteUse(b, c.right[i]);
                if (c.target[i] >= 0) {
                    putBit(sets, b * words, c.target[i]);
                }
            }
            noteUse(b, c.endUse[b]);
        }

        private void noteUse(int b, long operand) {
            if (isRegister(operand) && !hasBit(sets, b * words, registerOf(operand))) {
                putBit(uses, b * words, registerOf(operand));
            }
        }

        private void notePhis(Code c, int b) {
            for (int i = c.phiStart[b]; i < c.phiStart[b + 1]; i++) {
                putBit(phiSets, b * words, c.phiTarget[i]);
                for (int k = 0; k < c.predCount(b); k++) {
                    long operand = c.args[c.argStart[i] + k];
                    if (isRegister(operand)) {
                        putBit(phiUses, c.preds[c.predStart[b] + k] * words, registerOf(operand));
                    }
                }
            }
        }

        private boolean flowBack(Code c, int b) {
            boolean changed = false;
            for (int w = 0; w < words; w++) {
                int here = b * words + w;
                long behind = phiUses[here];
                for (int i = 0; i < c.goalCount(b); i++) {
                    int there = c.goal(b, i) * words + w;
                    behind |= start[there] & ~phiSets[there];
                }
                finish[here] = behind;
                long before = uses[here] | behind & ~sets[here];
                if (before != start[here]) {
                    start[here] = before;
                    changed = true;
                }
            }
            return changed;
        }

        /** The greatest number of registers live at one place. */
        int peak(Code c) {
            int most = 0;
            for (int b = 0; b < c.blocks; b++) {
                most = Math.max(most, peakOfBlock(c, b));
            }
            return most;
        }

        private int peakOfBlock(Code c, int b) {
            for (int w = 0; w < words; w++) {
                now[w] = finish[b * words + w];
            }
            int size = countBits(now, 0, words) + addNow(c.endUse[b]);
            int most = size;
            for (int i = c.rowStart[b + 1] - 1; i >= c.rowStart[b]; i--) {
                int set = c.target[i];
                if (set >= 0 && !hasBit(now, 0, set)) {
                    most = Math.max(most, size + 1);
                } else if (set >= 0) {
                    takeBit(now, 0, set);
                    size--;
                }
                size += addNow(c.left[i]) + addNow(c.right[i]);
                most = Math.max(most, size);
            }
            for (int i = c.phiStart[b]; i < c.phiStart[b + 1]; i++) {
                size += addNow(REGISTER + c.phiTarget[i]);
            }
            return Math.max(most, size);
        }

        /** Answers 1 if the register was not there before. */
        private int addNow(long operand) {
            if (!isRegister(operand) || hasBit(now, 0, registerOf(operand))) {
                return 0;
            }
            putBit(now, 0, registerOf(operand));
            return 1;
        }
    }

    /** Puts phis where they are needed, and gives all that is set a register of its own. */
    private static final class SsaMaker {
        private final long[] wanted = new long[MAX_BLOCKS * REGISTER_WORDS];
        private final int[] latest = new int[REGISTER_ROOM];
        private final int[] path = new int[MAX_BLOCKS];
        private final int[] pathMark = new int[MAX_BLOCKS];
        private final int[] hiddenRegister = new int[MAX_SET];
        private final int[] hiddenLatest = new int[MAX_SET];
        private int hidden = 0;
        private int given = 0;

        /** Answers false, with nothing changed, if there would be too much. */
        boolean make(Code c, Flow flow, Live live) {
            placePhis(c, flow, live);
            int words = live.words;
            int zeros = countBits(live.start, 0, words);
            int phis = 0;
            int args = 0;
            for (int b = 0; b < c.blocks; b++) {
                int here = countBits(wanted, b * words, words);
                phis += here;
                args += here * c.predCount(b);
            }
            int set = zeros + phis + rowsThatSet(c);
            if (set > MAX_SET || c.rows + zeros + phis > MAX_ROWS || args > MAX_ARGS) {
                return false;
            }
            addZeros(c, live, zeros);
            c.openArgs(args);
            addPhis(c, words);
            renumber(c, flow);
            return true;
        }

        private static int rowsThatSet(Code c) {
            int sum = 0;
            for (int i = 0; i < c.rows; i++) {
                if (c.target[i] >= 0) {
                    sum++;
                }
            }
            return sum;
        }

        private void placePhis(Code c, Flow flow, Live live) {
            clearBits(wanted, c.blocks * live.words);
            boolean changed = true;
            for (int round = 0; changed && round < ROUNDS; round++) {
                changed = false;
                for (int a = 0; a < c.blocks; a++) {
                    if (flow.frontierSize(a) > 0 && spread(c, flow, live, a)) {
                        changed = true;
                    }
                }
            }
        }

        private boolean spread(Code c, Flow flow, Live live, int a) {
            boolean changed = false;
            for (int b = 0; b < c.blocks; b++) {
                if (!flow.inFrontier(a, b)) {
                    continue;
                }
                for (int w = 0; w < live.words; w++) {
                    int there = b * live.words + w;
                    long set = live.sets[a * live.words + w] | wanted[a * live.words + w];
                    long more = set & live.start[there] & ~wanted[there];
                    if (more != 0) {
                        wanted[there] |= more;
                        changed = true;
                    }
                }
            }
            return changed;
        }

        private static void addZeros(Code c, Live live, int zeros) {
            c.openFront(zeros);
            int row = 0;
            for (int w = 0; w < live.words; w++) {
                long rest = live.start[w];
                for (int n = 0; rest != 0 && n < 64; n++) {
                    c.putRow(row, COPY, 64 * w + lowestBit(rest), 0, NO_OPERAND);
                    row++;
                    rest &= rest - 1;
                }
            }
        }

        /** The operands are the old register everywhere: the new names are found on the way. */
        private void addPhis(Code c, int words) {
            for (int b = 0; b < c.blocks; b++) {
                for (int w = 0; w < words; w++) {
                    long rest = wanted[b * words + w];
                    for (int n = 0; rest != 0 && n < 64; n++) {
                        addPhi(c, b, 64 * w + lowestBit(rest));
                        rest &= rest - 1;
                    }
                }
                c.phiStart[b + 1] = c.phis;
            }
        }

        private static void addPhi(Code c, int b, int register) {
            c.phiTarget[c.phis] = register;
            c.argStart[c.phis] = c.argCount;
            c.phis++;
            for (int k = 0; k < c.predCount(b); k++) {
                c.args[c.argCount] = REGISTER + register;
                c.argCount++;
            }
        }

        /** Gives v0, v1, .. in the order to all that is set, and answers how many. */
        int renumber(Code c, Flow flow) {
            for (int r = 0; r < REGISTER_ROOM; r++) {
                latest[r] = -1;
            }
            hidden = 0;
            given = 0;
            int depth = 0;
            for (int n = 0; n < flow.reached; n++) {
                int b = flow.order[n];
                for (; depth > 0 && path[depth - 1] != flow.idom[b]; depth--) {
                    uncover(pathMark[depth - 1]);
                }
                path[depth] = b;
                pathMark[depth] = hidden;
                depth++;
                renumberBlock(c, b);
            }
            return given;
        }

        /** Takes back what blocks set that do not dominate the next one. */
        private void uncover(int mark) {
            for (; hidden > mark; hidden--) {
                latest[hiddenRegister[hidden - 1]] = hiddenLatest[hidden - 1];
            }
        }

        private void renumberBlock(Code c, int b) {
            for (int i = c.phiStart[b]; i < c.phiStart[b + 1]; i++) {
                c.phiTarget[i] = giveNew(c.phiTarget[i]);
            }
            for (int i = c.rowStart[b]; i < c.rowStart[b + 1]; i++) {
                c.left[i] = renamed(c.left[i]);
                c.right[i] = renamed(c.right[i]);
                if (c.target[i] >= 0) {
                    c.target[i] = giveNew(c.target[i]);
                }
            }
            c.endUse[b] = renamed(c.endUse[b]);
            for (int g = 0; g < c.goalCount(b); g++) {
                renameArgs(c, c.goal(b, g), b);
            }
        }

        private void renameArgs(Code c, int b, int pred) {
            int k = c.predIndex(b, pred);
            if (k < 0) {
                return;
            }
            for (int i = c.phiStart[b]; i < c.phiStart[b + 1]; i++) {
                c.args[c.argStart[i] + k] = renamed(c.args[c.argStart[i] + k]);
            }
        }

        private int giveNew(int register) {
            if (hidden < MAX_SET) {
                hiddenRegister[hidden] = register;
                hiddenLatest[hidden] = latest[register];
                hidden++;
            }
            latest[register] = given;
            given++;
            return latest[register];
        }

        private long renamed(long operand) {
            return isRegister(operand) ? REGISTER + latest[registerOf(operand)] : operand;
        }
    }

    /** Pass 1: finds numbers along the ways that can be gone. */
    private static final class Constants {
        private static final int UNTOLD = 0;
        private static final int NUMBER = 1;
        private static final int ANY = 2;

        final boolean[] gone = new boolean[MAX_BLOCKS];
        private final boolean[] firstOpen = new boolean[MAX_BLOCKS];
        private final boolean[] secondOpen = new boolean[MAX_BLOCKS];
        private final int[] kinds = new int[REGISTER_ROOM];
        private final long[] instead = new long[REGISTER_ROOM];
        private boolean changed = false;

        /** Marks the blocks that stay; drops the rows and phis itself, and answers how much changes. */
        int fold(Code c, Flow flow) {
            findNumbers(c, flow);
            int changes = 0;
            for (int b = 0; b < c.blocks; b++) {
                if (gone[b]) {
                    changes += markNumbers(c, b);
                } else {
                    changes++;
                }
            }
            c.substitute(instead);
            for (int b = 0; b < c.blocks; b++) {
                if (gone[b] && foldIf(c, b)) {
                    changes++;
                }
            }
            c.sweep();
            return changes;
        }

        private void findNumbers(Code c, Flow flow) {
            for (int r = 0; r < REGISTER_ROOM; r++) {
                kinds[r] = UNTOLD;
                instead[r] = NO_OPERAND;
            }
            for (int b = 0; b < c.blocks; b++) {
                gone[b] = false;
                firstOpen[b] = false;
                secondOpen[b] = false;
            }
            gone[0] = true;
            changed = true;
            for (int round = 0; changed && round < ROUNDS; round++) {
                changed = false;
                for (int n = 0; n < flow.reached; n++) {
                    if (gone[flow.order[n]]) {
                        look(c, flow.order[n]);
                    }
                }
            }
        }

        private void look(Code c, int b) {
            for (int i = c.phiStart[b]; i < c.phiStart[b + 1]; i++) {
                lookAtPhi(c, b, i);
            }
            for (int i = c.rowStart[b]; i < c.rowStart[b + 1]; i++) {
                if (c.target[i] >= 0) {
                    lookAtRow(c, i);
                }
            }
            if (c.endKind[b] == JUMP) {
                open(c, b, true, true);
            } else if (c.endKind[b] == IF) {
                int kind = kindOf(c.endUse[b]);
                boolean zero = kind == NUMBER && numberOf(c.endUse[b]) == 0;
                open(c, b, kind == ANY || kind == NUMBER && !zero, kind == ANY || zero);
            }
        }

        private void lookAtPhi(Code c, int b, int phi) {
            int kind = UNTOLD;
            int number = 0;
            for (int k = 0; k < c.predCount(b); k++) {
                long operand = c.args[c.argStart[phi] + k];
                int one = kindOf(operand);
                if (one == UNTOLD || !isOpen(c, c.preds[c.predStart[b] + k], b)) {
                    continue;
                }
                if (kind == UNTOLD && one == NUMBER) {
                    kind = NUMBER;
                    number = numberOf(operand);
                } else if (one == ANY || numberOf(operand) != number) {
                    kind = ANY;
                }
            }
            tell(c.phiTarget[phi], kind, number);
        }

        private void lookAtRow(Code c, int row) {
            int op = c.op[row];
            int left = op == IN ? ANY : kindOf(c.left[row]);
            int right = op == IN || op == COPY ? left : kindOf(c.right[row]);
            if (left == UNTOLD || right == UNTOLD) {
                tell(c.target[row], UNTOLD, 0);
            } else if (left == ANY || right == ANY) {
                tell(c.target[row], ANY, 0);
            } else if (op == COPY) {
                tell(c.target[row], NUMBER, numberOf(c.left[row]));
            } else if (divides(op) && numberOf(c.right[row]) == 0) {
                tell(c.target[row], ANY, 0);
            } else {
                tell(c.target[row], NUMBER, compute(op, numberOf(c.left[row]), numberOf(c.right[row])));
            }
        }

        private int kindOf(long operand) {
            return isRegister(operand) ? kinds[registerOf(operand)] : NUMBER;
        }

        /** Of an operand that is, or is known to be, a number. */
        private int numberOf(long operand) {
            return (int) (isRegister(operand) ? instead[registerOf(operand)] : operand);
        }

        private void tell(int register, int kind, int number) {
            if (kind > kinds[register]) {
                kinds[register] = kind;
                instead[register] = kind == NUMBER ? number : NO_OPERAND;
                changed = true;
            }
        }

        private boolean isOpen(Code c, int from, int to) {
            return firstOpen[from] && c.goalOne[from] == to || secondOpen[from] && c.goalTwo[from] == to;
        }

        private void open(Code c, int b, boolean first, boolean second) {
            if (first && !firstOpen[b]) {
                firstOpen[b] = true;
                gone[c.goalOne[b]] = true;
                changed = true;
            }
            if (second && !secondOpen[b]) {
                secondOpen[b] = true;
                gone[c.goalTwo[b]] = true;
                changed = true;
            }
        }

        private int markNumbers(Code c, int b) {
            int marked = 0;
            for (int i = c.phiStart[b]; i < c.phiStart[b + 1]; i++) {
                if (kinds[c.phiTarget[i]] == NUMBER) {
                    c.phiTarget[i] = GONE;
                    marked++;
                }
            }
            for (int i = c.rowStart[b]; i < c.rowStart[b + 1]; i++) {
                if (c.target[i] >= 0 && kinds[c.target[i]] == NUMBER) {
                    c.op[i] = GONE;
                    marked++;
                }
            }
            return marked;
        }

        private static boolean foldIf(Code c, int b) {
            if (c.endKind[b] != IF || !isNumber(c.endUse[b])) {
                return false;
            }
            if (c.endUse[b] == 0) {
                c.goalOne[b] = c.goalTwo[b];
            } else {
                c.goalTwo[b] = c.goalOne[b];
            }
            c.endKind[b] = JUMP;
            c.endUse[b] = NO_OPERAND;
            return true;
        }
    }

    /** Pass 2: replaces what is set to a value that stands already somewhere that dominates it. */
    private static final class Likes {
        private final long[] instead = new long[REGISTER_ROOM];
        private final int[] standing = new int[MAX_ROWS];
        private int standingCount = 0;
        private final int[] path = new int[MAX_BLOCKS];
        private final int[] pathMark = new int[MAX_BLOCKS];

        int replaceAll(Code c, Flow flow) {
            for (int r = 0; r < REGISTER_ROOM; r++) {
                instead[r] = NO_OPERAND;
            }
            standingCount = 0;
            int depth = 0;
            for (int n = 0; n < flow.reached; n++) {
                int b = flow.order[n];
                for (; depth > 0 && path[depth - 1] != flow.idom[b]; depth--) {
                    standingCount = pathMark[depth - 1];
                }
                path[depth] = b;
                pathMark[depth] = standingCount;
                depth++;
                replaceInBlock(c, b);
            }
            c.substituteInPhis(instead);
            for (int i = 0; i < c.phis; i++) {
                if (instead[c.phiTarget[i]] != NO_OPERAND) {
                    c.phiTarget[i] = GONE;
                }
            }
            return c.sweep();
        }

        private void replaceInBlock(Code c, int b) {
            for (int i = c.phiStart[b]; i < c.phiStart[b + 1]; i++) {
                instead[c.phiTarget[i]] = resolve(valueOfPhi(c, b, i), instead);
            }
            for (int i = c.rowStart[b]; i < c.rowStart[b + 1]; i++) {
                c.left[i] = resolve(c.left[i], instead);
                c.right[i] = resolve(c.right[i], instead);
                if (c.op[i] == COPY) {
                    replaceRow(c, i, c.left[i]);
                } else if (c.op[i] >= ADD) {
                    replaceByLike(c, i);
                }
            }
            c.endUse[b] = resolve(c.endUse[b], instead);
        }

        private void replaceRow(Code c, int row, long operand) {
            instead[c.target[row]] = operand;
            c.op[row] = GONE;
        }

        private void replaceByLike(Code c, int row) {
            for (int n = 0; n < standingCount; n++) {
                if (alike(c, row, standing[n])) {
                    replaceRow(c, row, REGISTER + c.target[standing[n]]);
                    return;
                }
            }
            standing[standingCount] = row;
            standingCount++;
        }

        private static boolean alike(Code c, int a, int b) {
            if (c.op[a] != c.op[b]) {
                return false;
            }
            if (c.left[a] == c.left[b] && c.right[a] == c.right[b]) {
                return true;
            }
            return turnsRound(c.op[a]) && c.left[a] == c.right[b] && c.right[a] == c.left[b];
        }

        private static boolean turnsRound(int op) {
            switch (op) {
                case ADD:
                case MUL:
                case AND:
                case OR:
                case XOR:
                case SAME:
                case DIFFERENT:
                    return true;
                default:
                    return false;
            }
        }

        /** What a phi can be replaced by, with its operands as they were before the pass. */
        private static long valueOfPhi(Code c, int b, int phi) {
            for (int other = c.phiStart[b]; other < phi; other++) {
                if (sameArgs(c, phi, other, c.predCount(b))) {
                    return REGISTER + c.phiTarget[other];
                }
            }
            long itself = REGISTER + c.phiTarget[phi];
            long only = NO_OPERAND;
            for (int k = 0; k < c.predCount(b); k++) {
                long operand = c.args[c.argStart[phi] + k];
                if (operand != itself && operand != only) {
                    if (only != NO_OPERAND) {
                        return NO_OPERAND;
                    }
                    only = operand;
                }
            }
            return only;
        }

        private static boolean sameArgs(Code c, int one, int two, int length) {
            for (int k = 0; k < length; k++) {
                if (c.args[c.argStart[one] + k] != c.args[c.argStart[two] + k]) {
                    return false;
                }
            }
            return true;
        }
    }

    /** Passes 3 to 5 (dead rows, loops, joins), and the dropping of blocks that other steps ask for. */
    private static final class Tidier {
        private final boolean[] leads = new boolean[MAX_BLOCKS];
        private final int[] follower = new int[MAX_BLOCKS];
        private final int[] number = new int[MAX_BLOCKS];
        private final int[] firstOf = new int[MAX_BLOCKS];
        private final int[] lastOf = new int[MAX_BLOCKS];
        private final boolean[] marked = new boolean[REGISTER_ROOM];
        private final long[] instead = new long[REGISTER_ROOM];
        private boolean changed = false;
        private int foundBlock = 0;

        int dropDead(Code c) {
            clearMarks();
            for (int b = 0; b < c.blocks; b++) {
                mark(c.endUse[b]);
            }
            for (int i = 0; i < c.rows; i++) {
                if (c.op[i] == SHOW || mayFail(c.op[i], c.right[i])) {
                    mark(c.left[i]);
                    mark(c.right[i]);
                }
            }
            changed = true;
            for (int round = 0; changed && round < ROUNDS; round++) {
                changed = false;
                for (int b = c.blocks - 1; b >= 0; b--) {
                    markUsesOf(c, b);
                }
            }
            return dropUnmarked(c);
        }

        private void clearMarks() {
            for (int r = 0; r < REGISTER_ROOM; r++) {
                marked[r] = false;
            }
        }

        private void mark(long operand) {
            if (isRegister(operand) && !marked[registerOf(operand)]) {
                marked[registerOf(operand)] = true;
                changed = true;
            }
        }

        private void markUsesOf(Code c, int b) {
            for (int i = c.rowStart[b + 1] - 1; i >= c.rowStart[b]; i--) {
                if (c.target[i] >= 0 && marked[c.target[i]]) {
                    mark(c.left[i]);
                    mark(c.right[i]);
                }
            }
            for (int i = c.phiStart[b]; i < c.phiStart[b + 1]; i++) {
                if (marked[c.phiTarget[i]]) {
                    for (int k = 0; k < c.predCount(b); k++) {
                        mark(c.args[c.argStart[i] + k]);
                    }
                }
            }
        }

        private int dropUnmarked(Code c) {
            for (int i = 0; i < c.rows; i++) {
                boolean stays = c.op[i] == SHOW || c.op[i] == IN || mayFail(c.op[i], c.right[i]);
                if (!stays && !marked[c.target[i]]) {
                    c.op[i] = GONE;
                }
            }
            for (int i = 0; i < c.phis; i++) {
                if (!marked[c.phiTarget[i]]) {
                    c.phiTarget[i] = GONE;
                }
            }
            return c.sweep();
        }

        int emptyLoops(Code c, Flow flow) {
            int moved = 0;
            for (int head = c.blocks - 1; head > 0; head--) {
                if (flow.markLoop(c, head) == 0) {
                    continue;
                }
                int door = onlyPredOutside(c, flow, head);
                if (door < 0 || c.endKind[door] != JUMP) {
                    continue;
                }
                markSetInLoop(c, flow);
                int row = firstLoose(c, flow);
                for (int n = 0; row >= 0 && n < MAX_ROWS; n++) {
                    marked[c.target[row]] = false;
                    c.moveRowToEnd(row, foundBlock, door);
                    moved++;
                    row = firstLoose(c, flow);
                }
            }
            return moved;
        }

        private static int onlyPredOutside(Code c, Flow flow, int head) {
            int found = -1;
            for (int i = c.predStart[head]; i < c.predStart[head + 1]; i++) {
                if (!flow.inLoop[c.preds[i]]) {
                    if (found >= 0) {
                        return -1;
                    }
                    found = c.preds[i];
                }
            }
            return found;
        }

        private void markSetInLoop(Code c, Flow flow) {
            clearMarks();
            for (int b = 0; b < c.blocks; b++) {
                if (!flow.inLoop[b]) {
                    continue;
                }
                for (int i = c.phiStart[b]; i < c.phiStart[b + 1]; i++) {
                    marked[c.phiTarget[i]] = true;
                }
                for (int i = c.rowStart[b]; i < c.rowStart[b + 1]; i++) {
                    if (c.target[i] >= 0) {
                        marked[c.target[i]] = true;
                    }
                }
            }
        }

        /** The first row in the loop that uses nothing which the loop sets; -1 if there is none. */
        private int firstLoose(Code c, Flow flow) {
            for (int b = 0; b < c.blocks; b++) {
                if (!flow.inLoop[b]) {
                    continue;
                }
                for (int i = c.rowStart[b]; i < c.rowStart[b + 1]; i++) {
                    boolean may = c.op[i] == COPY || c.op[i] >= ADD && !mayFail(c.op[i], c.right[i]);
                    if (may && !setInLoop(c.left[i]) && !setInLoop(c.right[i])) {
                        foundBlock = b;
                        return i;
                    }
                }
            }
            return -1;
        }

        private boolean setInLoop(long operand) {
            return isRegister(operand) && marked[registerOf(operand)];
        }

        /**
         * Finds who stands behind whom and puts the operands of their phis in place; answers how many.
         * One join never makes or hinders another, so all can be found at once.
         */
        int findJoins(Code c) {
            for (int r = 0; r < REGISTER_ROOM; r++) {
                instead[r] = NO_OPERAND;
            }
            for (int b = 0; b < c.blocks; b++) {
                leads[b] = true;
                follower[b] = -1;
            }
            int joins = 0;
            for (int b = 1; b < c.blocks; b++) {
                int pred = c.predCount(b) == 1 ? c.preds[c.predStart[b]] : -1;
                if (pred >= 0 && pred != b && c.endKind[pred] == JUMP) {
                    leads[b] = false;
                    follower[pred] = b;
                    joins++;
                    for (int i = c.phiStart[b]; i < c.phiStart[b + 1]; i++) {
                        instead[c.phiTarget[i]] = c.args[c.argStart[i]];
                    }
                }
            }
            c.substitute(instead);
            return joins;
        }

        int straightenIfs(Code c) {
            int straightened = 0;
            for (int b = 0; b < c.blocks; b++) {
                if (c.endKind[b] == IF && c.goalOne[b] == c.goalTwo[b]) {
                    c.endKind[b] = JUMP;
                    c.endUse[b] = NO_OPERAND;
                    straightened++;
                }
            }
            return straightened;
        }

        void keepReached(Code from, Code to, Flow flow) {
            for (int b = 0; b < from.blocks; b++) {
                leads[b] = flow.isReached(b);
                follower[b] = -1;
            }
            gather(from, to);
        }

        void keepSome(Code from, Code to, boolean[] kept) {
            for (int b = 0; b < from.blocks; b++) {
                leads[b] = kept[b];
                follower[b] = -1;
            }
            gather(from, to);
        }

        /** Each block that leads becomes one block, with all that follow it, and the end of the last. */
        void gather(Code from, Code to) {
            to.clear();
            for (int b = 0; b < from.blocks; b++) {
                if (leads[b]) {
                    takeChain(from, to, b);
                }
            }
            for (int b = 0; b < to.blocks; b++) {
                if (to.endKind[b] != RET) {
                    to.goalOne[b] = number[to.goalOne[b]];
                    to.goalTwo[b] = number[to.goalTwo[b]];
                }
            }
            to.findPreds();
            to.openArgs(from.argCount);
            for (int b = 0; b < to.blocks; b++) {
                takePhis(from, to, b);
                to.phiStart[b + 1] = to.phis;
            }
        }

        private void takeChain(Code from, Code to, int head) {
            int last = head;
            int next = head;
            firstOf[to.blocks] = head;
            for (int n = 0; next >= 0 && n < MAX_BLOCKS; n++) {
                last = next;
                number[last] = to.blocks;
                to.addRowsOf(from, last);
                next = follower[last];
            }
            lastOf[to.blocks] = last;
            to.closeBlock(from.endKind[last], from.endUse[last], from.goalOne[last], from.goalTwo[last]);
        }

        /** The old preds are those that the old function was given, whatever its ends say by now. */
        private void takePhis(Code from, Code to, int b) {
            int old = firstOf[b];
            for (int i = from.phiStart[old]; i < from.phiStart[old + 1]; i++) {
                to.phiTarget[to.phis] = from.phiTarget[i];
                to.argStart[to.phis] = to.argCount;
                to.phis++;
                for (int k = to.predStart[b]; k < to.predStart[b + 1]; k++) {
                    int was = from.predIndex(old, lastOf[to.preds[k]]);
                    if (was >= 0 && to.argCount < to.args.length) {
                        to.args[to.argCount] = from.args[from.argStart[i] + was];
                        to.argCount++;
                    }
                }
            }
        }
    }

    /** The way out: colours for registers (pass 7), and plain rows in place of phis. */
    private static final class WayOut {
        private static final int LEFT_ENDS = 1;
        private static final int RIGHT_ENDS = 2;
        private static final int TARGET_LIVES = 4;

        private final int[] colour = new int[REGISTER_ROOM];
        private final int[] busy = new int[REGISTER_ROOM];
        private final int[] rowFlags = new int[MAX_ROWS];
        private final long[] now = new long[REGISTER_WORDS];
        private int words = 0;
        private int stamp = 0;
        private int colours = 0;
        private final boolean[] present = new boolean[REGISTER_ROOM];
        private final int[] moveTo = new int[MAX_SET];
        private final long[] moveFrom = new long[MAX_SET];
        private final boolean[] moved = new boolean[MAX_SET];
        private final int[] waiting = new int[REGISTER_ROOM];
        private int moves = 0;
        private int helper = 0;

        int paint(Code c, Flow flow, Live live) {
            for (int r = 0; r < REGISTER_ROOM; r++) {
                colour[r] = -1;
                busy[r] = 0;
            }
            words = live.words;
            stamp = 0;
            colours = 0;
            for (int n = 0; n < flow.reached; n++) {
                int b = flow.order[n];
                flagRows(c, live, b);
                paintPhis(c, live, b);
                paintRows(c, live, b);
            }
            recolour(c);
            return colours;
        }

        private void setNow(long[] from, int b) {
            for (int w = 0; w < words; w++) {
                now[w] = from[b * words + w];
            }
        }

        private void addNow(long operand) {
            if (isRegister(operand)) {
                putBit(now, 0, registerOf(operand));
            }
        }

        private boolean isNow(long operand) {
            return !isRegister(operand) || hasBit(now, 0, registerOf(operand));
        }

        /** Goes backward once, so that the way forward knows where registers end. */
        private void flagRows(Code c, Live live, int b) {
            setNow(live.finish, b);
            addNow(c.endUse[b]);
            for (int i = c.rowStart[b + 1] - 1; i >= c.rowStart[b]; i--) {
                int flags = 0;
                int set = c.target[i];
                if (set >= 0 && hasBit(now, 0, set)) {
                    flags |= TARGET_LIVES;
                    takeBit(now, 0, set);
                }
                if (!isNow(c.left[i])) {
                    flags |= LEFT_ENDS;
                }
                if (!isNow(c.right[i])) {
                    flags |= RIGHT_ENDS;
                }
                addNow(c.left[i]);
                addNow(c.right[i]);
                rowFlags[i] = flags;
            }
        }

        private void paintPhis(Code c, Live live, int b) {
            setNow(live.start, b);
            for (int i = c.phiStart[b]; i < c.phiStart[b + 1]; i++) {
                putBit(now, 0, c.phiTarget[i]);
            }
            for (int i = c.phiStart[b]; i < c.phiStart[b + 1]; i++) {
                giveColour(c.phiTarget[i]);
            }
        }

        private void paintRows(Code c, Live live, int b) {
            setNow(live.start, b);
            for (int i = c.rowStart[b]; i < c.rowStart[b + 1]; i++) {
                if ((rowFlags[i] & LEFT_ENDS) != 0) {
                    takeBit(now, 0, registerOf(c.left[i]));
                }
                if ((rowFlags[i] & RIGHT_ENDS) != 0) {
                    takeBit(now, 0, registerOf(c.right[i]));
                }
                if (c.target[i] >= 0) {
                    giveColour(c.target[i]);
                }
                if ((rowFlags[i] & TARGET_LIVES) != 0) {
                    putBit(now, 0, c.target[i]);
                }
            }
        }

        private void giveColour(int register) {
            stamp++;
            for (int w = 0; w < words; w++) {
                long rest = now[w];
                for (int n = 0; rest != 0 && n < 64; n++) {
                    int other = 64 * w + lowestBit(rest);
                    if (colour[other] >= 0) {
                        busy[colour[other]] = stamp;
                    }
                    rest &= rest - 1;
                }
            }
            int least = 0;
            while (least < REGISTER_ROOM - 1 && busy[least] == stamp) {
                least++;
            }
            colour[register] = least;
            colours = Math.max(colours, least + 1);
        }

        private void recolour(Code c) {
            for (int i = 0; i < c.rows; i++) {
                c.left[i] = coloured(c.left[i]);
                c.right[i] = coloured(c.right[i]);
                if (c.target[i] >= 0) {
                    c.target[i] = colour[c.target[i]];
                }
            }
            for (int b = 0; b < c.blocks; b++) {
                c.endUse[b] = coloured(c.endUse[b]);
                for (int i = c.phiStart[b]; i < c.phiStart[b + 1]; i++) {
                    c.phiTarget[i] = colour[c.phiTarget[i]];
                    for (int k = c.argStart[i]; k < c.argStart[i] + c.predCount(b); k++) {
                        c.args[k] = coloured(c.args[k]);
                    }
                }
            }
        }

        private long coloured(long operand) {
            return isRegister(operand) ? REGISTER + colour[registerOf(operand)] : operand;
        }

        /** Answers how many rows came, or -1 if there would be too much. */
        int level(Code c, Code to) {
            helper = leastAbsent(c);
            to.clear();
            for (int b = 0; b < c.blocks; b++) {
                if (!levelBlock(c, to, b)) {
                    return -1;
                }
            }
            for (int b = 0; b < c.blocks; b++) {
                if (c.phiCount(b) > 0 && !splitWays(c, to, b)) {
                    return -1;
                }
            }
            to.findPreds();
            return to.rows - c.rows;
        }

        private boolean levelBlock(Code c, Code to, int b) {
            if (!to.addRowsOf(c, b)) {
                return false;
            }
            if (c.goalCount(b) == 1) {
                collectMoves(c, c.goalOne[b], b);
                if (!writeMoves(to)) {
                    return false;
                }
            }
            return to.closeBlock(c.endKind[b], c.endUse[b], c.goalOne[b], c.goalTwo[b]);
        }

        private int leastAbsent(Code c) {
            for (int r = 0; r < REGISTER_ROOM; r++) {
                present[r] = false;
                waiting[r] = 0;
            }
            for (int i = 0; i < c.rows; i++) {
                notePresent(REGISTER + c.target[i]);
                notePresent(c.left[i]);
                notePresent(c.right[i]);
            }
            for (int b = 0; b < c.blocks; b++) {
                notePresent(c.endUse[b]);
                for (int i = c.phiStart[b]; i < c.phiStart[b + 1]; i++) {
                    notePresent(REGISTER + c.phiTarget[i]);
                    for (int k = 0; k < c.predCount(b); k++) {
                        notePresent(c.args[c.argStart[i] + k]);
                    }
                }
            }
            int least = 0;
            while (least < REGISTER_ROOM - 1 && present[least]) {
                least++;
            }
            return least;
        }

        private void notePresent(long operand) {
            if (isRegister(operand)) {
                present[registerOf(operand)] = true;
            }
        }

        /** Ways from blocks with two goals get blocks of their own behind all others. */
        private boolean splitWays(Code c, Code to, int b) {
            for (int k = c.predStart[b]; k < c.predStart[b + 1]; k++) {
                int pred = c.preds[k];
                if (c.goalCount(pred) != 2) {
                    continue;
                }
                collectMoves(c, b, pred);
                if (moves == 0) {
                    continue;
                }
                int fresh = to.blocks;
                if (!writeMoves(to) || !to.closeBlock(JUMP, NO_OPERAND, b, b)) {
                    return false;
                }
                if (c.goalOne[pred] == b) {
                    to.goalOne[pred] = fresh;
                } else {
                    to.goalTwo[pred] = fresh;
                }
            }
            return true;
        }

        private void collectMoves(Code c, int b, int pred) {
            moves = 0;
            int k = c.predIndex(b, pred);
            if (k < 0) {
                return;
            }
            for (int i = c.phiStart[b]; i < c.phiStart[b + 1]; i++) {
                long operand = c.args[c.argStart[i] + k];
                if (operand != REGISTER + c.phiTarget[i]) {
                    moveTo[moves] = c.phiTarget[i];
                    moveFrom[moves] = operand;
                    moved[moves] = false;
                    moves++;
                    await(operand, 1);
                }
            }
        }

        /** Counts how many moves that are left use a register. */
        private void await(long operand, int more) {
            if (isRegister(operand)) {
                waiting[registerOf(operand)] += more;
            }
        }

        private boolean writeMoves(Code to) {
            int left = moves;
            for (int n = 0; left > 0 && n < 2 * MAX_SET; n++) {
                int next = firstFree();
                if (next >= 0) {
                    if (!to.addRow(COPY, moveTo[next], moveFrom[next], NO_OPERAND)) {
                        return false;
                    }
                    moved[next] = true;
                    await(moveFrom[next], -1);
                    left--;
                } else if (!saveFirst(to)) {
                    return false;
                }
            }
            return true;
        }

        private int firstFree() {
            for (int i = 0; i < moves; i++) {
                if (!moved[i] && waiting[moveTo[i]] == 0) {
                    return i;
                }
            }
            return -1;
        }

        /** Only rings are left: the helper keeps the old value of the first, which can then be set. */
        private boolean saveFirst(Code to) {
            int first = -1;
            for (int i = moves - 1; i >= 0; i--) {
                if (!moved[i]) {
                    first = i;
                }
            }
            if (first < 0) {
                return false;
            }
            long kept = REGISTER + moveTo[first];
            for (int i = 0; i < moves; i++) {
                if (!moved[i] && moveFrom[i] == kept) {
                    await(kept, -1);
                    moveFrom[i] = REGISTER + helper;
                    await(moveFrom[i], 1);
                }
            }
            return to.addRow(COPY, helper, kept, NO_OPERAND);
        }
    }

    /** Runs a function in any of its forms. */
    private static final class Machine {
        int inputLength = 0;
        int answer = 0;
        int shownCount = 0;
        int steps = 0;
        int inputRead = 0;
        int ending = -1;
        final int[] shownInts = new int[MAX_SHOWN];
        private final int[] inputInts = new int[MAX_TAPE / 4];
        private final int[] register = new int[REGISTER_ROOM];
        private final int[] phiValue = new int[MAX_SET];
        private int fuel = 0;

        private static final int RETURNED = 0;
        private static final int DIVIDED = 1;
        private static final int NO_FUEL = 4;
        private static final int TOO_MUCH_SHOWN = 5;

        void takeInput(byte[] bytes, int length) {
            inputLength = length / 4;
            for (int i = 0; i < inputLength; i++) {
                int high = (bytes[4 * i] & 255) << 24 | (bytes[4 * i + 1] & 255) << 16;
                inputInts[i] = high | (bytes[4 * i + 2] & 255) << 8 | bytes[4 * i + 3] & 255;
            }
        }

        void start(Code c, int fuelGiven) {
            fuel = fuelGiven;
            answer = 0;
            shownCount = 0;
            steps = 0;
            inputRead = 0;
            ending = -1;
            for (int r = 0; r < REGISTER_ROOM; r++) {
                register[r] = 0;
            }
            int from = -1;
            int b = 0;
            for (int n = 0; ending < 0 && n <= fuelGiven; n++) {
                int next = goThrough(c, b, from);
                from = b;
                b = next;
            }
        }

        private boolean takeStep() {
            if (steps >= fuel) {
                ending = NO_FUEL;
                return false;
            }
            steps++;
            return true;
        }

        private int valueOf(long operand) {
            return isRegister(operand) ? register[registerOf(operand)] : (int) operand;
        }

        /** Does a block from its phis to its end; answers where the run goes on, if it does. */
        private int goThrough(Code c, int b, int from) {
            if (c.phiCount(b) > 0) {
                if (!takeStep()) {
                    return -1;
                }
                setPhis(c, b, from);
            }
            for (int i = c.rowStart[b]; i < c.rowStart[b + 1]; i++) {
                if (!takeStep() || !doRow(c, i)) {
                    return -1;
                }
            }
            if (!takeStep()) {
                return -1;
            }
            if (c.endKind[b] == RET) {
                ending = RETURNED;
                answer = valueOf(c.endUse[b]);
                return -1;
            }
            return c.endKind[b] == IF && valueOf(c.endUse[b]) == 0 ? c.goalTwo[b] : c.goalOne[b];
        }

        private void setPhis(Code c, int b, int from) {
            int first = c.phiStart[b];
            int k = c.predIndex(b, from);
            if (k < 0) {
                return;
            }
            for (int i = first; i < c.phiStart[b + 1]; i++) {
                phiValue[i - first] = valueOf(c.args[c.argStart[i] + k]);
            }
            for (int i = first; i < c.phiStart[b + 1]; i++) {
                register[c.phiTarget[i]] = phiValue[i - first];
            }
        }

        /** Answers false if the run ends here. */
        private boolean doRow(Code c, int i) {
            switch (c.op[i]) {
                case IN:
                    register[c.target[i]] = nextInput();
                    return true;
                case SHOW:
                    return show(valueOf(c.left[i]));
                case COPY:
                    register[c.target[i]] = valueOf(c.left[i]);
                    return true;
                default:
                    return doOperator(c, i);
            }
        }

        private int nextInput() {
            if (inputRead >= inputLength) {
                return 0;
            }
            inputRead++;
            return inputInts[inputRead - 1];
        }

        private boolean show(int value) {
            if (shownCount >= MAX_SHOWN) {
                ending = TOO_MUCH_SHOWN;
                return false;
            }
            shownInts[shownCount] = value;
            shownCount++;
            return true;
        }

        private boolean doOperator(Code c, int i) {
            int right = valueOf(c.right[i]);
            if (divides(c.op[i]) && right == 0) {
                ending = DIVIDED;
                return false;
            }
            register[c.target[i]] = compute(c.op[i], valueOf(c.left[i]), right);
            return true;
        }
    }

    /** Writes listings; the latest one is kept as the result. */
    private static final class Printer {
        int length = 0;
        private byte[] result = new byte[FIRST_RESULT];
        private final int[] digits = new int[10];
        private boolean keeping = false;
        private int at = 0;

        /** The length that a listing would have; the result stays as it is. */
        int measure(Code c) {
            keeping = false;
            printAll(c);
            return at;
        }

        /** Writes a listing that has been measured. */
        void write(Code c) {
            if (at > result.length) {
                result = new byte[Math.max(at, Math.min(2 * at, MAX_RESULT))];
            }
            keeping = true;
            printAll(c);
            length = Math.min(at, result.length);
        }

        long eightBytes(int from) {
            long word = 0;
            for (int i = 0; i < 8; i++) {
                int next = from + i < length ? result[from + i] & 255 : 0;
                word = word << 8 | next;
            }
            return word;
        }

        private void printAll(Code c) {
            at = 0;
            for (int b = 0; b < c.blocks; b++) {
                putNamed('b', b);
                putText(":\n");
                for (int i = c.phiStart[b]; i < c.phiStart[b + 1]; i++) {
                    printPhi(c, b, i);
                }
                for (int i = c.rowStart[b]; i < c.rowStart[b + 1]; i++) {
                    printRow(c, i);
                }
                printEnd(c, b);
            }
        }

        private void printPhi(Code c, int b, int phi) {
            putNamed('v', c.phiTarget[phi]);
            putText(" = phi(");
            for (int k = 0; k < c.predCount(b); k++) {
                if (k > 0) {
                    putText(", ");
                }
                putNamed('b', c.preds[c.predStart[b] + k]);
                putByte(' ');
                putOperand(c.args[c.argStart[phi] + k]);
            }
            putText(")\n");
        }

        private void printRow(Code c, int row) {
            int op = c.op[row];
            if (op == SHOW) {
                putText("show ");
            } else {
                putNamed('v', c.target[row]);
                putText(" = ");
            }
            if (op == IN) {
                putText("in");
            } else {
                putOperand(c.left[row]);
            }
            if (op >= ADD) {
                putByte(' ');
                putText(signOf(op));
                putByte(' ');
                putOperand(c.right[row]);
            }
            putByte('\n');
        }

        private void printEnd(Code c, int b) {
            if (c.endKind[b] == RET) {
                putText("ret ");
                putOperand(c.endUse[b]);
            } else if (c.endKind[b] == JUMP) {
                putText("jump ");
                putNamed('b', c.goalOne[b]);
            } else {
                putText("if ");
                putOperand(c.endUse[b]);
                putByte(' ');
                putNamed('b', c.goalOne[b]);
                putByte(' ');
                putNamed('b', c.goalTwo[b]);
            }
            putByte('\n');
        }

        private static String signOf(int op) {
            switch (op) {
                case ADD:
                    return "+";
                case SUB:
                    return "-";
                case MUL:
                    return "*";
                case DIV:
                    return "/";
                case REM:
                    return "%";
                case AND:
                    return "&";
                case OR:
                    return "|";
                case XOR:
                    return "^";
                case SHL:
                    return "<<";
                case SHR:
                    return ">>";
                case LESS:
                    return "<";
                case AT_MOST:
                    return "<=";
                case SAME:
                    return "==";
                default:
                    return "!=";
            }
        }

        private void putByte(int value) {
            if (keeping && at < result.length) {
                result[at] = (byte) value;
            }
            at++;
        }

        private void putText(String text) {
            for (int i = 0; i < text.length(); i++) {
                putByte(text.charAt(i));
            }
        }

        private void putNamed(char letter, int number) {
            putByte(letter);
            putNumber(number);
        }

        private void putOperand(long operand) {
            if (isRegister(operand)) {
                putNamed('v', registerOf(operand));
            } else {
                putNumber(operand);
            }
        }

        private void putNumber(long number) {
            long rest = number;
            if (rest < 0) {
                putByte('-');
                rest = -rest;
            }
            int n = 0;
            do {
                digits[n] = (int) (rest % 10);
                rest /= 10;
                n++;
            } while (rest > 0 && n < 10);
            for (int i = n - 1; i >= 0; i--) {
                putByte('0' + digits[i]);
            }
        }
    }
}
