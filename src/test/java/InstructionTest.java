/** What each instruction does in a run, ordinary values and edges. */
public final class InstructionTest {
    private static final int LEAST = Integer.MIN_VALUE;
    private static final int MOST = Integer.MAX_VALUE;

    public static void main(String[] args) {
        numbers();
        cellsAndLocals();
        sums();
        divisions();
        rearranged();
        jumps();
        input();
        output();
        ends();
        Check.finish();
    }

    private static CodeYard run(int answer, int[] input, int... instructions) {
        CodeYard yard = new CodeYard();
        int loaded = Check.load(yard, 1, Check.code(instructions));
        Check.that("sound: " + loaded, loaded > 0);
        Check.tape(yard, input);
        Check.due("begin", yard.begin(1, 0), 1);
        Check.due("go", yard.go(2001), answer);
        return yard;
    }

    private static void result(String what, int want, int... instructions) {
        CodeYard yard = run(0, new int[] {}, instructions);
        Check.due(what, yard.state(1), want);
        Check.due(what + ": reason", yard.state(2), 0);
    }

    private static void thrown(String what, int reason, int done, int... instructions) {
        CodeYard yard = run(2, new int[] {7}, instructions);
        Check.due(what + ": reason", yard.state(2), reason);
        Check.due(what + ": answer", yard.state(1), 0);
        Check.due(what + ": done", yard.state(3), done);
    }

    private static void two(int op, int a, int b, int want) {
        result(a + " (" + op + ") " + b, want, Check.join(Check.number(a), Check.number(b), new int[] {op, 22}));
    }

    private static void numbers() {
        result("0 0", 0, 0, 0, 22);
        result("0 127", 127, 0, 127, 22);
        result("0 128", -128, 0, 128, 22);
        result("0 255", -1, 0, 255, 22);
        for (int v : new int[] {0, 1, -1, 255, 256, -256, 0x12345678, 0x80808080, LEAST, MOST}) {
            result("number", v, Check.join(Check.number(v), new int[] {22}));
        }
    }

    private static void cellsAndLocals() {
        result("a cell is 0", 0, 1, 15, 22);
        result("a local is 0", 0, 3, 7, 22);
        for (int n = 0; n < 16; n++) {
            result("cell " + n, 9, 0, 9, 2, n, 1, n, 22);
            result("cell beside " + n, 0, 0, 9, 2, n, 1, n ^ 1, 22);
        }
        for (int n = 0; n < 8; n++) {
            result("local " + n, 9, 0, 9, 4, n, 3, n, 22);
            result("local beside " + n, 0, 0, 9, 4, n, 3, n ^ 1, 22);
        }
        result("cell and local apart", 1, 0, 1, 2, 3, 0, 2, 4, 3, 1, 3, 22);
    }

    private static void sums() {
        two(5, 3, 4, 7);
        two(5, MOST, 1, LEAST);
        two(6, 3, 5, -2);
        two(6, LEAST, 1, MOST);
        two(7, -3, 5, -15);
        two(7, 65537, 65537, 131073);
        two(7, LEAST, -1, LEAST);
        two(8, 12, 10, 8);
        two(9, 12, 10, 14);
        two(10, 12, 10, 6);
        two(8, -1, 77, 77);
        two(9, LEAST, MOST, -1);
        two(11, 3, 4, 48);
        two(11, 3, 36, 48);
        two(11, 1, 31, LEAST);
        two(11, 1, -1, LEAST);
        two(11, 5, 32, 5);
        two(12, 48, 4, 3);
        two(12, -48, 4, -3);
        two(12, -1, 31, -1);
        two(12, LEAST, 31, -1);
        two(12, LEAST, -1, -1);
        two(12, -7, 32, -7);
        two(12, 256, 40, 1);
    }

    private static void divisions() {
        two(25, 7, 2, 3);
        two(25, -7, 2, -3);
        two(25, 7, -2, -3);
        two(25, 0, 5, 0);
        two(25, LEAST, -1, LEAST);
        two(25, MOST, LEAST, 0);
        two(26, 7, 3, 1);
        two(26, -7, 3, -1);
        two(26, 7, -3, 1);
        two(26, LEAST, -1, 0);
        two(26, MOST, LEAST, MOST);
        thrown("25 by 0", 1, 3, 0, 5, 0, 0, 25, 22);
        thrown("25 of 0 by 0", 1, 3, 0, 0, 0, 0, 25, 22);
        thrown("26 by 0", 1, 3, 0, 5, 0, 0, 26, 22);
    }

    private static void rearranged() {
        result("13", 49, 0, 7, 13, 7, 22);
        result("14", 1, 0, 1, 0, 2, 14, 22);
        result("15", 4, 0, 1, 0, 5, 15, 6, 22);
        CodeYard yard = new CodeYard();
        Check.load(yard, 0, Check.code(0, 1, 0, 2, 0, 3, 15, 13, 14, 23));
        yard.begin(0, 0);
        yard.go(4);
        Check.due("15: lowest", yard.stack(0), 1);
        Check.due("15: b", yard.stack(1), 3);
        Check.due("15: a", yard.stack(2), 2);
        yard.go(1);
        Check.due("13: a", yard.stack(2), 2);
        Check.due("13: a again", yard.stack(3), 2);
        yard.go(1);
        Check.due("14: it goes", yard.stack(3), 0);
        Check.due("14: the others stay", yard.stack(2), 2);
    }

    private static void jumps() {
        result("16", 2, 16, 8, 0, 1, 22, 0, 2, 22);
        for (int a : new int[] {0, 1, -1, 256, LEAST}) {
            int[] number = Check.number(a);
            int target = 3 + number.length + 2 + 3;
            int[] rest = {17, target, 0, 1, 22, 0, 2, 22};
            result("17 of " + a, a == 0 ? 2 : 1, Check.join(number, rest));
        }
        int[][] pairs = {{1, 2}, {2, 1}, {2, 2}, {-1, 0}, {0, -1}, {LEAST, MOST}, {MOST, LEAST}};
        for (int[] pair : pairs) {
            int[] numbers = Check.join(Check.number(pair[0]), Check.number(pair[1]));
            int target = 3 + numbers.length + 2 + 3;
            int[] rest = {18, target, 0, 1, 22, 0, 2, 22};
            result("18", pair[0] < pair[1] ? 2 : 1, Check.join(numbers, rest));
        }
        // Places above 127 have no sign: all behind the first one goes on at 255.
        int[] far = Check.join(new int[] {16, 255}, Check.times(250, 24), new int[] {23});
        result("16 to place 255", 0, far);
        result("17 to place 255", 0, Check.join(new int[] {20, 17, 255}, Check.times(249, 24), new int[] {23}));
        int[] less = {20, 0, 1, 18, 255};
        result("18 to place 255", 0, Check.join(less, Check.times(247, 24), new int[] {23}));
    }

    private static void input() {
        CodeYard yard = run(0, new int[] {1, 200, 255}, 0, 1, 19, 22);
        Check.due("19", yard.state(1), 200);
        Check.due("19: first", run(0, new int[] {255}, 0, 0, 19, 22).state(1), 255);
        Check.due("19: the byte behind", run(2, new int[] {255}, 0, 1, 19, 22).state(2), 2);
        Check.due("19: no byte", run(2, new int[] {}, 0, 0, 19, 22).state(2), 2);
        Check.due("20", run(0, new int[] {5, 6, 7}, 20, 22).state(1), 3);
        Check.due("20: none", run(0, new int[] {}, 20, 22).state(1), 0);
        int[] whole = Check.times(300, 9);
        whole[299] = 201;
        Check.due("20: 300", run(0, whole, 20, 22).state(1), 300);
        Check.due("19: byte 299", run(0, whole, 20, 0, 1, 6, 19, 22).state(1), 201);
        Check.due("19: byte 300", run(2, whole, 20, 19, 22).state(2), 2);
        thrown("19 of -1", 2, 2, 0, 255, 19, 22);
        thrown("19 of the least", 2, 14, Check.join(Check.number(LEAST), new int[] {19, 22}));
        Check.due("19 twice", run(0, new int[] {4, 5}, 0, 1, 19, 0, 1, 19, 7, 22).state(1), 25);
    }

    private static void output() {
        int[] puts = {21, 0, 255, 21, 0, 1, 21, 23};
        CodeYard yard = run(0, new int[] {}, Check.join(Check.number(0x1234567f), puts));
        int[] due = {0x7f, 255, 1};
        Check.due("21: bytes", yard.state(7), 3);
        for (int i = 0; i < 3; i++) {
            Check.due("21: out(" + i + ")", yard.out(i), due[i]);
        }
        for (int i : new int[] {-1, 3, 64, LEAST, MOST}) {
            Check.due("out(" + i + ")", yard.out(i), -1);
        }
        int[] full = Check.times(64, 20, 21);
        CodeYard just = run(0, new int[] {5}, Check.join(full, new int[] {23}));
        Check.due("64 bytes", just.state(7), 64);
        Check.due("64 bytes: last", just.out(63), 1);
        CodeYard more = run(2, new int[] {5}, Check.join(full, new int[] {20, 21, 23}));
        Check.due("65 bytes: reason", more.state(2), 3);
        Check.due("65 bytes: done", more.state(3), 130);
        Check.due("65 bytes: there", more.state(7), 64);
        Check.due("65 bytes: out(63)", more.out(63), 1);
        Check.due("65 bytes: out(64)", more.out(64), -1);
    }

    private static void ends() {
        result("22", -5, 0, 251, 22);
        result("22 of several", 3, 0, 1, 0, 2, 0, 3, 22);
        result("23", 0, 0, 5, 23);
        thrown("24", 1, 2, 0, 5, 24);
        thrown("24 at once", 1, 1, 24);
    }
}
