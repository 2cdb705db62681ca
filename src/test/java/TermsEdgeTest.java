/** The edges that the terms name: the tape, the codes and their cells, and each instruction. */
public final class TermsEdgeTest {
    private static final int LEAST = Integer.MIN_VALUE;
    private static final int MOST = Integer.MAX_VALUE;
    private static final int[] NO_INPUT = {};
    private static final int[] EIGHT = {1, 2, 3, 4, 5, 6, 7, 8};

    public static void main(String[] args) {
        tapeAndOut();
        codesAndCells();
        numbers();
        fullStack();
        arithmetic();
        jumps();
        inputAndOutput();
        endings();
        Check.finish();
    }

    /** What code 0 answers as it is run at once; the run must end. */
    private static int result(int[] input, int... instructions) {
        CodeYard yard = Check.yard(instructions);
        Check.tape(yard, input);
        yard.begin(0, 0);
        Check.due("it ends", yard.go(2001), 0);
        return yard.state(1);
    }

    /** The reason with which code 0 throws as it is run at once. */
    private static int reason(int[] input, int... instructions) {
        CodeYard yard = Check.yard(instructions);
        Check.tape(yard, input);
        yard.begin(0, 0);
        Check.due("it throws", yard.go(2001), 2);
        return yard.state(2);
    }

    private static void two(int op, int a, int b, int want) {
        int[] all = Check.join(Check.number(a), Check.number(b), new int[] {op, 22});
        Check.due(a + " (" + op + ") " + b, result(NO_INPUT, all), want);
    }

    private static void tapeAndOut() {
        Check.sentence("THE TAPE has bytes 0 .. 255", () -> {
            CodeYard yard = new CodeYard();
            yard.feed(-1, 0, LEAST, MOST, 0x00ff0080);
            int[] due = {255, 255, 255, 255, 0, 0, 0, 0, 128, 0, 0, 0, 127, 255, 255, 255, 0, 255, 0, 128};
            for (int i = 0; i < 20; i++) {
                Check.due("byte " + i, yard.poke(i, 0), due[i]);
            }
        });
        Check.sentence("THE TAPE has at most 300", () -> {
            CodeYard yard = new CodeYard();
            for (int n = 20; n <= 300; n += 20) {
                Check.due("feed", yard.feed(0, 0, 0, 0, n & 255), n);
            }
            Check.due("feed of more", yard.feed(0, 0, 0, 0, 0), -1);
            Check.due("byte 299", yard.poke(299, 0), 300 & 255);
            Check.due("byte 300", yard.poke(300, 0), -1);
        });
        Check.sentence("THE OUT, at first nothing", () -> {
            CodeYard yard = new CodeYard();
            Check.due("out(0)", yard.out(0), -1);
            Check.due("out(63)", yard.out(63), -1);
        });
        Check.sentence("THE OUT, as a RUN begins, nothing", () -> {
            int[][] lasts = {{16, 6}, {23}, {24}};
            int[] answers = {1, 0, 2};
            for (int i = 0; i < 3; i++) {
                CodeYard yard = Check.yard(Check.join(new int[] {0, 7, 21}, lasts[i]));
                yard.begin(0, 0);
                Check.due("before: go", yard.go(3), answers[i]);
                Check.due("before: bytes", yard.state(7), 1);
                Check.due("before: out(0)", yard.out(0), 7);
                yard.begin(0, 0);
                Check.due("begun: bytes", yard.state(7), 0);
                Check.due("begun: out(0)", yard.out(0), -1);
            }
        });
        Check.sentence("THE OUT is what the latest RUN put out", () -> {
            CodeYard yard = Check.yard(0, 1, 21, 0, 2, 21, 23);
            Check.load(yard, 1, Check.code(0, 3, 21, 23));
            yard.begin(0, 0);
            yard.go(9);
            Check.due("ended: out(1)", yard.out(1), 2);
            Check.load(yard, 2, Check.code(23));
            Check.due("a load is no run", yard.out(1), 2);
            yard.begin(1, 0);
            yard.go(9);
            Check.due("the next one's", yard.out(0), 3);
            Check.due("nothing of the other", yard.out(1), -1);
        });
    }

    private static void codesAndCells() {
        Check.sentence("There are CODES 0 .. 7, at first none", () -> {
            CodeYard yard = new CodeYard();
            for (int k = -1; k <= 8; k++) {
                Check.due("new: size", yard.size(k), -1);
                Check.due("new: begin", yard.begin(k, 0), -1);
            }
            for (int k = -1; k <= 8; k++) {
                boolean is = k >= 0 && k <= 7;
                Check.due("load(" + k + ")", Check.load(yard, k, Check.code(Check.times(2 + k, 23))), is ? 2 + k : -1);
            }
            for (int k = -1; k <= 8; k++) {
                Check.due("size(" + k + ")", yard.size(k), k >= 0 && k <= 7 ? 5 + k : -1);
            }
        });
        Check.sentence("each with 16 CELLS", () -> {
            CodeYard yard = new CodeYard();
            for (int k = 0; k < 8; k += 7) {
                Check.load(yard, k, Check.code(0, 5 + k, 2, 0, 0, 6 + k, 2, 15, 1, 15, 1, 0, 6, 22));
                yard.begin(k, 0);
                Check.due("it ends", yard.go(9), 0);
                Check.due("CELL 15 less CELL 0", yard.state(1), 1);
            }
            for (int k = 0; k < 8; k += 7) {
                Check.due("CELL 0 of " + k, yard.cell(k, 0), 5 + k);
                Check.due("CELL 15 of " + k, yard.cell(k, 15), 6 + k);
                Check.due("CELL 16 of " + k, yard.cell(k, 16), 0);
                Check.due("1 of CELL 16", Check.load(yard, k, Check.code(1, 16, 22)), -4003);
                Check.due("2 of CELL 16", Check.load(yard, k, Check.code(20, 2, 16, 23)), -4004);
            }
        });
        Check.sentence("CELLS (ints, 0 as it is taken)", () -> {
            for (int v : new int[] {LEAST, -1, MOST}) {
                int[] body = Check.join(Check.number(v), new int[] {13, 2, 0, 2, 15, 23});
                CodeYard yard = Check.yard(body);
                Check.due("taken: CELL 0", yard.cell(0, 0), 0);
                yard.begin(0, 0);
                yard.go(99);
                Check.due("CELL 0", yard.cell(0, 0), v);
                Check.due("CELL 15", yard.cell(0, 15), v);
                Check.load(yard, 0, Check.code(body));
                Check.due("the same one taken anew: CELL 0", yard.cell(0, 0), 0);
                Check.due("the same one taken anew: CELL 15", yard.cell(0, 15), 0);
            }
        });
        Check.sentence("three BEGINNINGS, a byte each", () -> {
            CodeYard yard = new CodeYard();
            Check.load(yard, 0, Check.join(new int[] {3, 128, 255}, Check.times(253, 23)));
            int[] due = {3, 128, 255};
            for (int b = 0; b < 3; b++) {
                Check.due("begin", yard.begin(0, b), 1);
                Check.due("its place", yard.state(6), due[b]);
            }
            Check.due("begin(0, -1)", yard.begin(0, -1), -1);
            Check.due("begin(0, 3)", yard.begin(0, 3), -1);
        });
        Check.sentence("from place 3 on INSTRUCTIONS", () -> {
            CodeYard yard = new CodeYard();
            Check.due("one INSTRUCTION", Check.load(yard, 0, 3, 3, 3, 23), 1);
            Check.due("at place 3", yard.height(0, 3), 0);
            Check.due("not at place 2", yard.height(0, 2), -1);
            Check.due("a BEGINNING 2", Check.load(yard, 1, 3, 3, 2, 23), -6002);
        });
        Check.sentence("8 LOCALS", () -> {
            Check.due("LOCAL 7 less LOCAL 0", result(NO_INPUT, 0, 5, 4, 0, 0, 6, 4, 7, 3, 7, 3, 0, 6, 22), 1);
            CodeYard yard = new CodeYard();
            Check.due("3 of LOCAL 8", Check.load(yard, 0, Check.code(3, 8, 22)), -4003);
            Check.due("4 of LOCAL 8", Check.load(yard, 0, Check.code(20, 4, 8, 23)), -4004);
        });
    }

    private static void numbers() {
        Check.sentence("a b are taken from the STACK, b first", () -> {
            Check.due("6", result(NO_INPUT, 0, 9, 0, 2, 6, 22), 7);
            Check.due("11", result(NO_INPUT, 0, 1, 0, 3, 11, 22), 8);
            Check.due("25", result(NO_INPUT, 0, 9, 0, 2, 25, 22), 4);
            Check.due("what is below stays", result(NO_INPUT, 0, 50, 0, 9, 0, 2, 6, 6, 22), 43);
        });
        Check.sentence("0 n: n with its sign", () -> {
            int[] operands = {0, 1, 126, 127, 128, 129, 254, 255};
            int[] due = {0, 1, 126, 127, -128, -127, -2, -1};
            for (int i = 0; i < operands.length; i++) {
                Check.due("0 " + operands[i], result(NO_INPUT, 0, operands[i], 22), due[i]);
            }
        });
        Check.sentence("1 n: CELL n; 2 n: CELL n becomes a", () -> {
            for (int n = 0; n < 16; n++) {
                CodeYard yard = Check.yard(0, 9, 2, n, 1, n, 22);
                yard.begin(0, 0);
                yard.go(9);
                Check.due("CELL " + n, yard.state(1), 9);
                for (int i = 0; i < 16; i++) {
                    Check.due("CELL " + i, yard.cell(0, i), i == n ? 9 : 0);
                }
            }
        });
        Check.sentence("3 n: LOCAL n; 4 n: LOCAL n becomes a", () -> {
            for (int n = 0; n < 8; n++) {
                CodeYard yard = Check.yard(0, 9, 4, n, 3, n, 22);
                yard.begin(0, 0);
                yard.go(3);
                Check.due("LOCAL " + n, yard.stack(0), 9);
                for (int i = 0; i < 8; i++) {
                    Check.due("LOCAL " + i, yard.local(i), i == n ? 9 : 0);
                }
            }
        });
        Check.sentence("13: a, a; 14 a goes; 15: b, a", () -> {
            CodeYard yard = Check.yard(0, 1, 0, 2, 15, 13, 14, 14, 14, 23);
            yard.begin(0, 0);
            int[][] stacks = {{}, {1}, {1, 2}, {2, 1}, {2, 1, 1}, {2, 1}, {2}, {}};
            for (int[] stack : stacks) {
                for (int i = 0; i < 4; i++) {
                    Check.due("stack(" + i + ") of " + stack.length, yard.stack(i), i < stack.length ? stack[i] : 0);
                }
                yard.go(1);
            }
            Check.due("it has ended", yard.state(0), 0);
        });
    }

    private static void fullStack() {
        Check.sentence("would leave more than 8: with 8 there, all others take and leave theirs", () -> {
            int[] pushes = {0, 1, 0, 2, 0, 3, 0, 4, 0, 5, 0, 6, 0, 7, 0, 8};
            int[][] others = {{2, 0}, {4, 0}, {5}, {6}, {15}, {16, 21}, {17, 21}, {18, 21}, {19}, {21}, {25}};
            int[] below = {7, 7, 6, 6, 6, 8, 7, 6, 7, 7, 6};
            int[][] above = {{}, {}, {15}, {-1}, {8, 7}, {}, {}, {}, {108}, {}, {0}};
            for (int i = 0; i < others.length; i++) {
                CodeYard yard = Check.yard(Check.join(pushes, others[i], new int[] {23}));
                Check.tape(yard, 100, 101, 102, 103, 104, 105, 106, 107, 108);
                yard.begin(0, 0);
                yard.go(9);
                for (int at = 0; at < 8; at++) {
                    int[] left = Check.join(java.util.Arrays.copyOf(EIGHT, below[i]), above[i]);
                    int want = at < left.length ? left[at] : 0;
                    Check.due(others[i][0] + ": stack(" + at + ")", yard.stack(at), want);
                }
            }
            Check.due("22", result(NO_INPUT, Check.join(pushes, new int[] {22})), 8);
            Check.due("all added", result(NO_INPUT, Check.join(pushes, Check.times(7, 5), new int[] {22})), 36);
        });
        Check.sentence("would leave more than 8: 8 may be left", () -> {
            int[] pushes = {0, 1, 0, 2, 0, 3, 0, 4, 0, 5, 0, 6, 0, 7};
            int[][] others = {{0, 9}, {1, 0}, {3, 0}, {13}, {20}, {27, 1}};
            int[] tops = {9, 0, 0, 7, 2, 70};
            for (int i = 0; i < others.length; i++) {
                CodeYard yard = Check.yard(Check.join(pushes, others[i], new int[] {22}));
                Check.load(yard, 1, Check.code(0, 70, 22));
                Check.tape(yard, 5, 6);
                yard.begin(0, 0);
                yard.go(others[i][0] == 27 ? 10 : 8);
                Check.due(others[i][0] + ": stack(7)", yard.stack(7), tops[i]);
                Check.due(others[i][0] + ": stack(6)", yard.stack(6), 7);
                Check.due("it ends", yard.go(1), 0);
                Check.due(others[i][0] + ": it ends with it", yard.state(1), tops[i]);
            }
        });
    }

    private static void arithmetic() {
        Check.sentence("a STACK of ints (wrapping)", () -> {
            two(5, MOST, 1, LEAST);
            two(5, LEAST, -1, MOST);
            two(5, LEAST, LEAST, 0);
            two(5, MOST, MOST, -2);
            two(6, LEAST, 1, MOST);
            two(6, MOST, -1, LEAST);
            two(6, 0, LEAST, LEAST);
            two(7, LEAST, -1, LEAST);
            two(7, MOST, 2, -2);
            two(7, 65536, 65536, 0);
            two(7, 46341, 46341, -2147479015);
            two(7, MOST, MOST, 1);
        });
        Check.sentence("8 a and b; 9 or; 10 xor", () -> {
            two(8, LEAST, -1, LEAST);
            two(8, LEAST, MOST, 0);
            two(8, 12, 10, 8);
            two(9, LEAST, MOST, -1);
            two(9, 0, 0, 0);
            two(9, -1, 5, -1);
            two(9, 12, 10, 14);
            two(10, -1, MOST, LEAST);
            two(10, LEAST, LEAST, 0);
            two(10, 12, 10, 6);
        });
        Check.sentence("11 a << b (b's lowest five bits)", () -> {
            two(11, 3, 0, 3);
            two(11, 1, 31, LEAST);
            two(11, 3, 31, LEAST);
            two(11, 3, 32, 3);
            two(11, 3, 33, 6);
            two(11, 3, -1, LEAST);
            two(11, 3, -32, 3);
            two(11, 3, LEAST, 3);
            two(11, 3, MOST, LEAST);
        });
        Check.sentence("12 a >> b with its sign (b's lowest five bits)", () -> {
            two(12, -5, 0, -5);
            two(12, LEAST, 31, -1);
            two(12, MOST, 31, 0);
            two(12, -5, 1, -3);
            two(12, -5, 32, -5);
            two(12, -5, 33, -3);
            two(12, LEAST, -1, -1);
            two(12, MOST, -1, 0);
            two(12, -5, LEAST, -5);
            two(12, MOST, 30, 1);
        });
        Check.sentence("25: a / b, 26: what is left (as ints have it)", () -> {
            two(25, LEAST, -1, LEAST);
            two(26, LEAST, -1, 0);
            two(25, -7, 2, -3);
            two(26, -7, 2, -1);
            two(25, 7, -2, -3);
            two(26, 7, -2, 1);
            two(25, LEAST, LEAST, 1);
            two(26, LEAST, MOST, -1);
            two(25, 0, -1, 0);
            two(26, 0, LEAST, 0);
        });
        Check.sentence("25, 26: THROWS if b is 0", () -> {
            for (int op = 25; op <= 26; op++) {
                for (int a : new int[] {0, 1, LEAST}) {
                    int[] body = Check.join(Check.number(a), new int[] {0, 0, op, 22});
                    Check.due(a + " (" + op + ") 0", reason(NO_INPUT, body), 1);
                }
                two(op, 0, 1, 0);
            }
        });
    }

    private static void jumps() {
        Check.sentence("16 n: it goes on at place n", () -> {
            for (int target : new int[] {5, 127, 128, 255}) {
                int[] body = Check.times(253, 24);
                body[0] = 16;
                body[1] = target;
                body[target - 3] = 23;
                CodeYard yard = Check.yard(body);
                yard.begin(0, 0);
                Check.due("go(1)", yard.go(1), 1);
                Check.due("the place", yard.state(6), target);
                Check.due("go(1)", yard.go(1), 0);
            }
            CodeYard back = Check.yard(16, 3);
            back.begin(0, 0);
            Check.due("at itself: go(1)", back.go(1), 1);
            Check.due("at itself", back.state(6), 3);
        });
        Check.sentence("17 n: likewise, if a is 0", () -> {
            for (int a : new int[] {0, 1, -1, 256, 65536, LEAST, MOST}) {
                int[] body = Check.join(Check.number(a), new int[] {17, 28, 0, 1, 22, 0, 2, 22});
                Check.due("17 with " + a, result(NO_INPUT, body), a == 0 ? 2 : 1);
            }
        });
        Check.sentence("18 n: if a < b", () -> {
            int[][] pairs = {{0, 0}, {0, 1}, {1, 0}, {-1, 0}, {0, -1}, {LEAST, MOST}, {MOST, LEAST}, {LEAST, LEAST},
                {MOST, MOST}, {LEAST, LEAST + 1}, {MOST, MOST - 1}, {-2, -1}};
            for (int[] pair : pairs) {
                int[] numbers = Check.join(Check.number(pair[0]), Check.number(pair[1]));
                int[] body = Check.join(numbers, new int[] {18, 48, 0, 1, 22, 0, 2, 22});
                Check.due(pair[0] + " < " + pair[1], result(NO_INPUT, body), pair[0] < pair[1] ? 2 : 1);
            }
        });
    }

    private static void inputAndOutput() {
        Check.sentence("19: byte a of INPUT (from 0 on)", () -> {
            int[] input = {11, 0, 255};
            for (int i = 0; i < 3; i++) {
                Check.due("byte " + i, result(input, 0, i, 19, 22), input[i]);
            }
            int[] most = Check.times(300, 1);
            most[299] = 200;
            Check.due("byte 299", result(most, 20, 0, 1, 6, 19, 22), 200);
        });
        Check.sentence("20: how many these are", () -> {
            for (int n : new int[] {0, 1, 20, 255, 256, 300}) {
                Check.due(n + " bytes", result(Check.times(n, 9), 20, 22), n);
            }
        });
        Check.sentence("21: a's lowest eight bits come to THE OUT", () -> {
            int[] values = {0, 255, 256, -1, -256, LEAST, MOST, 0x180};
            int[] due = {0, 255, 0, 255, 0, 0, 255, 128};
            for (int i = 0; i < values.length; i++) {
                CodeYard yard = Check.yard(Check.join(Check.number(values[i]), new int[] {21, 23}));
                yard.begin(0, 0);
                yard.go(99);
                Check.due("of " + values[i], yard.out(0), due[i]);
                Check.due("of " + values[i] + ": bytes", yard.state(7), 1);
            }
        });
    }

    private static void endings() {
        Check.sentence("22: it ends with a", () -> {
            for (int v : new int[] {0, -1, LEAST, MOST}) {
                Check.due("22", result(NO_INPUT, Check.join(Check.number(v), new int[] {22})), v);
            }
            Check.due("with more below", result(NO_INPUT, 0, 1, 0, 2, 22), 2);
        });
        Check.sentence("23: it ends with 0", () -> {
            Check.due("nothing on the STACK", result(NO_INPUT, 23), 0);
            Check.due("something on the STACK", result(NO_INPUT, 0, 9, 23), 0);
        });
        Check.sentence("24: it THROWS", () -> {
            Check.due("nothing on the STACK", reason(NO_INPUT, 24), 1);
            Check.due("something on the STACK", reason(NO_INPUT, 0, 9, 24), 1);
        });
        Check.sentence("27 n: CALL of BEGINNING n / 8 of CODE n % 8 (n 0 .. 23)", () -> {
            for (int n = 0; n <= 23; n++) {
                CodeYard yard = new CodeYard();
                int caller = (n + 1) % 8;
                Check.load(yard, caller, Check.code(27, n, 22));
                Check.load(yard, n % 8, 3, 6, 9, 0, 50, 22, 0, 51, 22, 0, 52, 22);
                yard.begin(caller, 0);
                Check.due("it ends", yard.go(9), 0);
                Check.due("27 " + n, yard.state(1), 50 + n / 8);
            }
            CodeYard yard = new CodeYard();
            Check.due("27 24", Check.load(yard, 0, Check.code(27, 24, 22)), -4003);
        });
    }
}
