/**
 * A yard of small codes: looked over before they are taken, then run step by step, held, gone on
 * with, and undone when they throw. What each call must answer is told in the project's document.
 */
public final class CodeYard {
    public static final int NONE = -1;

    private static final int TAPE_MOST = 300;
    private static final int OUT_MOST = 64;
    private static final int CODES = 8;
    private static final int CELLS = 16;
    private static final int LOCALS = 8;
    private static final int STACK_MOST = 8;
    private static final int BEGINNINGS = 3;
    private static final int CODE_LEAST = 4;
    private static final int CODE_MOST = 256;
    private static final int WITHIN_MOST = 8;
    private static final int INSTRUCTIONS_MOST = 2000;
    private static final int BYTE = 255;

    private static final int PUSH = 0;
    private static final int READ_CELL = 1;
    private static final int WRITE_CELL = 2;
    private static final int READ_LOCAL = 3;
    private static final int WRITE_LOCAL = 4;
    private static final int ADD = 5;
    private static final int SUBTRACT = 6;
    private static final int MULTIPLY = 7;
    private static final int AND = 8;
    private static final int OR = 9;
    private static final int XOR = 10;
    private static final int SHIFT_LEFT = 11;
    private static final int SHIFT_RIGHT = 12;
    private static final int COPY = 13;
    private static final int DROP = 14;
    private static final int SWAP = 15;
    private static final int JUMP = 16;
    private static final int JUMP_IF_ZERO = 17;
    private static final int JUMP_IF_LESS = 18;
    private static final int INPUT_BYTE = 19;
    private static final int INPUT_COUNT = 20;
    private static final int PUT_OUT = 21;
    private static final int END_WITH = 22;
    private static final int END = 23;
    private static final int THROW = 24;
    private static final int DIVIDE = 25;
    private static final int REMAINDER = 26;
    private static final int CALL = 27;

    /** The greatest operand of each instruction, NONE where it has no operand. */
    private static final int[] OPERAND_MOST = {
        255, 15, 15, 7, 7, -1, -1, -1, -1, -1, -1, -1, -1, -1,
        -1, -1, 255, 255, 255, -1, -1, -1, -1, -1, -1, -1, -1, 23
    };
    /** How many each instruction takes from the stack. */
    private static final int[] TAKES = {
        0, 0, 1, 0, 1, 2, 2, 2, 2, 2, 2, 2, 2, 1,
        1, 2, 0, 1, 2, 1, 0, 1, 1, 0, 0, 2, 2, 0
    };
    /** How many come onto the stack then. */
    private static final int[] GIVES = {
        1, 1, 0, 1, 0, 1, 1, 1, 1, 1, 1, 1, 1, 2,
        0, 2, 0, 0, 0, 1, 1, 0, 0, 0, 0, 1, 1, 1
    };

    private static final int SOUND = 0;
    private static final int FAULT_LENGTH = 1;
    private static final int FAULT_INSTRUCTION = 2;
    private static final int FAULT_NO_OPERAND = 3;
    private static final int FAULT_OPERAND = 4;
    private static final int FAULT_LAST = 5;
    private static final int FAULT_PLACE = 6;
    private static final int FAULT_STACK = 7;
    private static final int FAULT_HEIGHT = 8;

    private static final int ENDED = 0;
    private static final int HELD = 1;
    private static final int THROWN = 2;

    private static final int REASON_THROW = 1;
    private static final int REASON_INPUT = 2;
    private static final int REASON_OUT = 3;
    private static final int REASON_NO_CODE = 4;
    private static final int REASON_WITHIN = 5;
    private static final int REASON_INSTRUCTIONS = 6;

    private final Row tape;
    private final Shelf shelf;
    private final Survey survey;
    private final Run run;

    public CodeYard() {
        tape = new Row(TAPE_MOST);
        shelf = new Shelf();
        survey = new Survey();
        run = new Run(shelf);
    }

    public int feed(int a, int b, int c, int d, int e) {
        if (tape.count + 20 > TAPE_MOST) {
            return NONE;
        }
        addBytes(a);
        addBytes(b);
        addBytes(c);
        addBytes(d);
        addBytes(e);
        return tape.count;
    }

    private void addBytes(int four) {
        for (int shift = 24; shift >= 0; shift -= 8) {
            tape.add((four >>> shift) & BYTE);
        }
    }

    public int end(int n) {
        if (n < 0 || n > tape.count) {
            return NONE;
        }
        tape.shorten(n);
        return n;
    }

    public int poke(int i, int v) {
        int before = tape.at(i, NONE);
        tape.put(i, v & BYTE);
        return before;
    }

    public int load(int k) {
        Code code = shelf.slot(k);
        if (code == null || run.isHeld()) {
            return NONE;
        }
        int fault = survey.lookOver(tape);
        if (fault == SOUND) {
            code.take(tape, survey.heights);
        }
        tape.shorten(0);
        return fault == SOUND ? survey.instructions : fault;
    }

    public int begin(int k, int b) {
        Code code = shelf.taken(k);
        if (code == null || b < 0 || b >= BEGINNINGS) {
            return NONE;
        }
        run.start(code, b, tape);
        tape.shorten(0);
        return HELD;
    }

    public int go(int n) {
        if (n < 0 || n > INSTRUCTIONS_MOST + 1 || !run.isHeld()) {
            return NONE;
        }
        return run.advance(n);
    }

    public int state(int what) {
        return run.tell(what);
    }

    public int stack(int i) {
        return run.isHeld() ? run.work.pile.at(i, 0) : 0;
    }

    public int local(int i) {
        return run.isHeld() ? run.work.locals.at(i, 0) : 0;
    }

    public int cell(int k, int i) {
        Code code = shelf.taken(k);
        return code == null ? 0 : code.cells.at(i, 0);
    }

    public int out(int i) {
        return run.output.at(i, NONE);
    }

    public int height(int k, int p) {
        Code code = shelf.taken(k);
        return code == null ? NONE : code.heights.at(p, NONE);
    }

    public int size(int k) {
        Code code = shelf.taken(k);
        return code == null ? NONE : code.bytes.count;
    }

    private static boolean isInstruction(int op) {
        return op >= 0 && op < OPERAND_MOST.length;
    }

    private static int operandMost(int op) {
        return isInstruction(op) ? OPERAND_MOST[op] : NONE;
    }

    private static boolean hasOperand(int op) {
        return operandMost(op) != NONE;
    }

    private static int takes(int op) {
        return op >= 0 && op < TAKES.length ? TAKES[op] : 0;
    }

    private static int gives(int op) {
        return op >= 0 && op < GIVES.length ? GIVES[op] : 0;
    }

    /** Nothing of the same code comes next behind these. */
    private static boolean isEnding(int op) {
        return op == END_WITH || op == END || op == THROW;
    }

    private static boolean isJump(int op) {
        return op == JUMP || op == JUMP_IF_ZERO || op == JUMP_IF_LESS;
    }

    /**
     * Ints behind one another. Every index is tested here, so that no user of a row can slip; each
     * method tests for itself, so that the calls of a step stay few within one another.
     */
    private static final class Row {
        private final int[] items;
        private int count;

        private Row(int most) {
            items = new int[Math.max(most, 0)];
            count = 0;
        }

        private boolean has(int i) {
            return i >= 0 && i < count && i < items.length;
        }

        private int at(int i, int otherwise) {
            return i >= 0 && i < count && i < items.length ? items[i] : otherwise;
        }

        private void put(int i, int v) {
            if (i >= 0 && i < count && i < items.length) {
                items[i] = v;
            }
        }

        private void add(int v) {
            if (count >= 0 && count < items.length) {
                items[count] = v;
                count++;
            }
        }

        private int takeLast() {
            if (count <= 0 || count > items.length) {
                return 0;
            }
            count--;
            return items[count];
        }

        private void shorten(int n) {
            count = Math.max(0, Math.min(n, count));
        }

        private void become(int n, int v) {
            count = Math.max(0, Math.min(n, items.length));
            for (int i = 0; i < count && i < items.length; i++) {
                items[i] = v;
            }
        }

        private void becomeLike(Row other) {
            count = 0;
            for (int i = 0; i < other.count; i++) {
                add(other.at(i, 0));
            }
        }
    }

    /** One of the eight codes, with its cells; it has no bytes as long as none was taken. */
    private static final class Code {
        private final int number;
        private final Row bytes;
        private final Row heights;
        private final Row cells;
        private final Row cellsBefore;

        private Code(int number) {
            this.number = number;
            bytes = new Row(CODE_MOST);
            heights = new Row(CODE_MOST);
            cells = new Row(CELLS);
            cellsBefore = new Row(CELLS);
        }

        private boolean isTaken() {
            return bytes.count > 0;
        }

        private void take(Row newBytes, Row newHeights) {
            bytes.becomeLike(newBytes);
            heights.becomeLike(newHeights);
            cells.become(CELLS, 0);
        }
    }

    /** The places for codes. */
    private static final class Shelf {
        private final Code[] codes;

        private Shelf() {
            codes = new Code[CODES];
            for (int k = 0; k < codes.length; k++) {
                codes[k] = new Code(k);
            }
        }

        /** Null if there is no such number. */
        private Code slot(int k) {
            return k >= 0 && k < codes.length ? codes[k] : null;
        }

        /** Null if there is no such number, or no code was taken there. */
        private Code taken(int k) {
            Code code = slot(k);
            return code != null && code.isTaken() ? code : null;
        }

        private void keepCells() {
            for (int k = 0; k < CODES; k++) {
                Code code = slot(k);
                if (code != null) {
                    code.cellsBefore.becomeLike(code.cells);
                }
            }
        }

        private void bringCellsBack() {
            for (int k = 0; k < CODES; k++) {
                Code code = slot(k);
                if (code != null) {
                    code.cells.becomeLike(code.cellsBefore);
                }
            }
        }
    }

    /** Looks bytes over before they are taken as a code. */
    private static final class Survey {
        private final Row starts;
        private final Row heights;
        private final Row waiting;
        private int instructions;
        private int lastStart;
        /** No place below this one is waiting, so the search for the least one begins here. */
        private int searchFrom;

        private Survey() {
            starts = new Row(CODE_MOST);
            heights = new Row(CODE_MOST);
            waiting = new Row(CODE_MOST);
        }

        /** SOUND, or the first fault in the form that load answers. */
        private int lookOver(Row bytes) {
            if (bytes.count < CODE_LEAST || bytes.count > CODE_MOST) {
                return fault(FAULT_LENGTH, bytes.count);
            }
            clear(bytes.count);
            int found = readInstructions(bytes);
            if (found == SOUND) {
                found = lookAtPlaces(bytes);
            }
            if (found == SOUND) {
                found = goThroughAll(bytes);
            }
            return found;
        }

        private static int fault(int number, int place) {
            return -1000 * number - place;
        }

        private void clear(int n) {
            starts.become(n, 0);
            heights.become(n, NONE);
            waiting.become(n, 0);
            instructions = 0;
            lastStart = BEGINNINGS;
            searchFrom = n;
        }

        private int readInstructions(Row bytes) {
            for (int p = BEGINNINGS; p < bytes.count; p++) {
                int found = readingFault(bytes, p);
                if (found != SOUND) {
                    return found;
                }
                starts.put(p, 1);
                instructions++;
                lastStart = p;
                if (hasOperand(bytes.at(p, NONE))) {
                    p++;
                }
            }
            int last = bytes.at(lastStart, 0);
            return last == JUMP || isEnding(last) ? SOUND : fault(FAULT_LAST, lastStart);
        }

        private static int readingFault(Row bytes, int p) {
            int op = bytes.at(p, NONE);
            if (!isInstruction(op)) {
                return fault(FAULT_INSTRUCTION, p);
            }
            if (!hasOperand(op)) {
                return SOUND;
            }
            if (!bytes.has(p + 1)) {
                return fault(FAULT_NO_OPERAND, p);
            }
            return bytes.at(p + 1, 0) > operandMost(op) ? fault(FAULT_OPERAND, p) : SOUND;
        }

        private int lookAtPlaces(Row bytes) {
            for (int p = 0; p < bytes.count; p++) {
                if (tellsPlace(bytes, p) && starts.at(bytes.at(p, NONE), 0) == 0) {
                    return fault(FAULT_PLACE, p);
                }
            }
            return SOUND;
        }

        private boolean tellsPlace(Row bytes, int p) {
            return p < BEGINNINGS || (starts.at(p - 1, 0) == 1 && isJump(bytes.at(p - 1, NONE)));
        }

        private int goThroughAll(Row bytes) {
            for (int b = 0; b < BEGINNINGS; b++) {
                comeTo(bytes.at(b, NONE), 0);
            }
            for (int round = 0; round < CODE_MOST; round++) {
                int p = leastWaiting();
                if (p == NONE) {
                    return SOUND;
                }
                int found = goThrough(bytes, p);
                if (found != SOUND) {
                    return found;
                }
            }
            return SOUND;
        }

        private int leastWaiting() {
            for (int p = searchFrom; p < waiting.count; p++) {
                if (waiting.at(p, 0) == 1) {
                    searchFrom = p;
                    return p;
                }
            }
            return NONE;
        }

        private int goThrough(Row bytes, int p) {
            waiting.put(p, 0);
            int op = bytes.at(p, NONE);
            int left = heights.at(p, 0) - takes(op);
            int after = left + gives(op);
            if (left < 0 || after > STACK_MOST) {
                return fault(FAULT_STACK, p);
            }
            if (isEnding(op)) {
                return SOUND;
            }
            int behind = p + (hasOperand(op) ? 2 : 1);
            if (!isJump(op)) {
                return comeTo(behind, after);
            }
            int target = bytes.at(p + 1, NONE);
            if (op == JUMP) {
                return comeTo(target, after);
            }
            int found = comeTo(Math.min(behind, target), after);
            return found != SOUND ? found : comeTo(Math.max(behind, target), after);
        }

        private int comeTo(int p, int height) {
            int before = heights.at(p, NONE);
            if (before == NONE) {
                heights.put(p, height);
                waiting.put(p, 1);
                searchFrom = Math.min(searchFrom, p);
                return SOUND;
            }
            return before == height ? SOUND : fault(FAULT_HEIGHT, p);
        }
    }

    /** A code at work: the run itself, or a call within it. The eight are made once and used again. */
    private static final class Frame {
        private final int level;
        /** The one that called, null for the run itself. */
        private final Frame outer;
        /** The one that a call makes work, null where that would be a ninth. */
        private Frame inner;
        private final Row pile;
        private final Row locals;
        private Code code;
        private int place;

        private Frame(int level, Frame outer, Code idle) {
            this.level = level;
            this.outer = outer;
            pile = new Row(STACK_MOST);
            locals = new Row(LOCALS);
            code = idle;
        }

        private void enter(Code entered, int beginning) {
            code = entered;
            place = entered.bytes.at(beginning, 0);
            pile.shorten(0);
            locals.become(LOCALS, 0);
        }

        private int nextByte() {
            int value = code.bytes.at(place, 0);
            place++;
            return value;
        }
    }

    /** The latest run, if there was one. */
    private static final class Run {
        private final Shelf shelf;
        private final Frame first;
        private final Row input;
        private final Row output;
        private Frame work;
        private boolean begun;
        private int status;
        private int result;
        private int reason;
        private int done;

        private Run(Shelf shelf) {
            this.shelf = shelf;
            input = new Row(TAPE_MOST);
            output = new Row(OUT_MOST);
            // Frames that never worked stand in this code, so that a frame's code is never null.
            Code idle = new Code(NONE);
            first = new Frame(1, null, idle);
            work = first;
            Frame last = first;
            for (int level = 2; level <= WITHIN_MOST; level++) {
                Frame next = new Frame(level, last, idle);
                last.inner = next;
                last = next;
            }
        }

        private boolean isHeld() {
            return begun && status == HELD;
        }

        private void start(Code code, int beginning, Row bytes) {
            if (isHeld()) {
                shelf.bringCellsBack();
            }
            shelf.keepCells();
            input.becomeLike(bytes);
            output.shorten(0);
            first.enter(code, beginning);
            work = first;
            begun = true;
            status = HELD;
            result = 0;
            reason = 0;
            done = 0;
        }

        private int advance(int n) {
            for (int i = 0; i < n && status == HELD; i++) {
                step();
            }
            if (status == THROWN) {
                shelf.bringCellsBack();
            }
            return status;
        }

        private int tell(int what) {
            if (!begun) {
                return NONE;
            }
            switch (what) {
                case 0:
                    return status;
                case 1:
                    return result;
                case 2:
                    return reason;
                case 3:
                    return done;
                case 4:
                    return status == HELD ? work.level : 0;
                case 5:
                    return status == HELD ? work.code.number : NONE;
                case 6:
                    return status == HELD ? work.place : NONE;
                case 7:
                    return output.count;
                default:
                    return NONE;
            }
        }

        private void step() {
            if (done >= INSTRUCTIONS_MOST) {
                fail(REASON_INSTRUCTIONS);
                return;
            }
            done++;
            int op = work.nextByte();
            int n = hasOperand(op) ? work.nextByte() : 0;
            if (op <= WRITE_LOCAL) {
                move(op, n);
            } else if (op <= SHIFT_RIGHT) {
                combine(op);
            } else if (op <= SWAP) {
                rearrange(op);
            } else if (op <= JUMP_IF_LESS) {
                jump(op, n);
            } else {
                doOther(op, n);
            }
        }

        private void fail(int why) {
            status = THROWN;
            reason = why;
        }

        private void move(int op, int n) {
            Row pile = work.pile;
            switch (op) {
                case PUSH:
                    pile.add((byte) n);
                    break;
                case READ_CELL:
                    pile.add(work.code.cells.at(n, 0));
                    break;
                case WRITE_CELL:
                    work.code.cells.put(n, pile.takeLast());
                    break;
                case READ_LOCAL:
                    pile.add(work.locals.at(n, 0));
                    break;
                default:
                    work.locals.put(n, pile.takeLast());
                    break;
            }
        }

        private void combine(int op) {
            int b = work.pile.takeLast();
            int a = work.pile.takeLast();
            work.pile.add(combined(op, a, b));
        }

        private static int combined(int op, int a, int b) {
            switch (op) {
                case ADD:
                    return a + b;
                case SUBTRACT:
                    return a - b;
                case MULTIPLY:
                    return a * b;
                case AND:
                    return a & b;
                case OR:
                    return a | b;
                case XOR:
                    return a ^ b;
                case SHIFT_LEFT:
                    return a << b;
                default:
                    return a >> b;
            }
        }

        private void rearrange(int op) {
            Row pile = work.pile;
            int top = pile.takeLast();
            if (op != DROP) {
                int second = op == COPY ? top : pile.takeLast();
                pile.add(top);
                pile.add(second);
            }
        }

        private void jump(int op, int target) {
            boolean goes = true;
            if (op == JUMP_IF_ZERO) {
                goes = work.pile.takeLast() == 0;
            } else if (op == JUMP_IF_LESS) {
                int b = work.pile.takeLast();
                int a = work.pile.takeLast();
                goes = a < b;
            }
            if (goes) {
                work.place = target;
            }
        }

        private void doOther(int op, int n) {
            switch (op) {
                case INPUT_BYTE:
                    readInput(work.pile.takeLast());
                    break;
                case INPUT_COUNT:
                    work.pile.add(input.count);
                    break;
                case PUT_OUT:
                    putOut(work.pile.takeLast());
                    break;
                case END_WITH:
                    finish(work.pile.takeLast());
                    break;
                case END:
                    finish(0);
                    break;
                case DIVIDE:
                case REMAINDER:
                    divide(op);
                    break;
                case CALL:
                    callCode(shelf.taken(n % CODES), n / CODES);
                    break;
                default:
                    fail(REASON_THROW);
                    break;
            }
        }

        private void readInput(int i) {
            if (input.has(i)) {
                work.pile.add(input.at(i, 0));
            } else {
                fail(REASON_INPUT);
            }
        }

        private void putOut(int value) {
            if (output.count < OUT_MOST) {
                output.add(value & BYTE);
            } else {
                fail(REASON_OUT);
            }
        }

        private void divide(int op) {
            int b = work.pile.takeLast();
            int a = work.pile.takeLast();
            if (b == 0) {
                fail(REASON_THROW);
            } else {
                work.pile.add(op == DIVIDE ? a / b : a % b);
            }
        }

        private void callCode(Code called, int beginning) {
            Frame inner = work.inner;
            if (called == null) {
                fail(REASON_NO_CODE);
            } else if (inner == null) {
                fail(REASON_WITHIN);
            } else {
                inner.enter(called, beginning);
                work = inner;
            }
        }

        private void finish(int value) {
            Frame outer = work.outer;
            if (outer == null) {
                status = ENDED;
                result = value;
            } else {
                outer.pile.add(value);
                work = outer;
            }
        }
    }
}
