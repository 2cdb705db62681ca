/** Promises 6 to 12: begin, go, state, stack, local, cell, out. */
public final class RunTest {
    private static final int[] RING = Check.code(16, 3);

    public static void main(String[] args) {
        beginnings();
        beginRefused();
        beginUndoes();
        tapeBecomesInput();
        goEdges();
        mostInstructions();
        states();
        calls();
        callsShareCells();
        callOfTheNewCode();
        noCode();
        ninth();
        undoneByThrow();
        outStays();
        stackAndLocals();
        cells();
        Check.finish();
    }

    private static void beginnings() {
        CodeYard yard = new CodeYard();
        Check.load(yard, 2, 9, 3, 6, 0, 1, 22, 0, 2, 22, 0, 3, 22);
        int[] due = {3, 1, 2};
        int[] places = {9, 3, 6};
        for (int b = 0; b < 3; b++) {
            Check.due("begin", yard.begin(2, b), 1);
            Check.states("begun", yard, 1, 0, 0, 0, 1, 2, places[b], 0);
            Check.due("go", yard.go(3), 0);
            Check.states("ended", yard, 0, due[b], 0, 2, 0, -1, -1, 0);
        }
    }

    private static void beginRefused() {
        CodeYard yard = new CodeYard();
        Check.load(yard, 7, Check.code(0, 4, 2, 3, 0, 5, 21, 20, 22));
        Check.tape(yard, 1, 2);
        yard.begin(7, 0);
        yard.go(4);
        Check.tape(yard, 1, 2, 3, 4, 5);
        int[][] wrong = {{-1, 0}, {8, 0}, {6, 0}, {7, -1}, {7, 3}, {Integer.MIN_VALUE, 0}, {Integer.MAX_VALUE, 0},
            {7, Integer.MIN_VALUE}, {7, Integer.MAX_VALUE}};
        for (int[] w : wrong) {
            Check.due("begin(" + w[0] + ", " + w[1] + ")", yard.begin(w[0], w[1]), -1);
            Check.states("refused", yard, 1, 0, 0, 4, 1, 7, 10, 1);
        }
        Check.due("refused: cell", yard.cell(7, 3), 4);
        Check.due("refused: out", yard.out(0), 5);
        Check.due("refused: the tape stays", yard.end(5), 5);
        Check.due("refused: it goes on", yard.go(2), 0);
        Check.due("refused: with its input", yard.state(1), 2);
        Check.due("refused, ended: begin", yard.begin(6, 0), -1);
        Check.states("refused, ended", yard, 0, 2, 0, 6, 0, -1, -1, 1);
    }

    private static void beginUndoes() {
        CodeYard yard = new CodeYard();
        Check.load(yard, 0, Check.code(1, 0, 0, 1, 5, 13, 2, 0, 21, 27, 1, 22));
        Check.load(yard, 1, Check.code(0, 9, 2, 5, 24));
        Check.load(yard, 2, Check.code(1, 0, 0, 1, 5, 2, 0, 23));
        yard.begin(2, 0);
        yard.go(9);
        Check.due("an ended run stays", yard.cell(2, 0), 1);
        yard.begin(0, 0);
        Check.due("held", yard.go(9), 1);
        Check.due("held: cell", yard.cell(0, 0), 1);
        Check.due("held: cell of the called", yard.cell(1, 5), 9);
        Check.due("held: out", yard.state(7), 1);
        Check.due("begin anew", yard.begin(2, 0), 1);
        Check.due("undone: cell", yard.cell(0, 0), 0);
        Check.due("undone: cell of the called", yard.cell(1, 5), 0);
        Check.due("undone: what was before stays", yard.cell(2, 0), 1);
        Check.states("undone", yard, 1, 0, 0, 0, 1, 2, 3, 0);
        Check.due("undone: out", yard.out(0), -1);
        Check.due("undone: stack", yard.stack(0), 0);
        Check.due("go", yard.go(9), 0);
        Check.due("ended: cell", yard.cell(2, 0), 2);
        yard.begin(2, 0);
        yard.go(4);
        Check.due("held: its own cell", yard.cell(2, 0), 3);
        yard.begin(2, 0);
        Check.due("undone: its own cell", yard.cell(2, 0), 2);
        yard.begin(2, 0);
        Check.due("undone without a step", yard.cell(2, 0), 2);
    }

    private static void tapeBecomesInput() {
        CodeYard yard = new CodeYard();
        Check.load(yard, 0, Check.code(20, 0, 0, 19, 5, 22));
        Check.tape(yard, 50, 60);
        yard.begin(0, 0);
        Check.due("the tape is empty", yard.end(1), -1);
        Check.tape(yard, 70, 80, 90);
        yard.go(9);
        Check.due("input is what the tape was", yard.state(1), 52);
        Check.due("the new tape stays", yard.end(3), 3);
        yard.begin(0, 0);
        yard.go(9);
        Check.due("then it is input", yard.state(1), 73);
        yard.begin(0, 0);
        Check.due("no input is left over", yard.go(9), 2);
        Check.due("no input: reason", yard.state(2), 2);
    }

    private static void goEdges() {
        CodeYard yard = new CodeYard();
        Check.load(yard, 0, Check.code(0, 1, 0, 2, 5, 22));
        yard.begin(0, 0);
        for (int n : new int[] {-1, 2002, Integer.MIN_VALUE, Integer.MAX_VALUE}) {
            Check.due("go(" + n + ")", yard.go(n), -1);
        }
        Check.due("go(0)", yard.go(0), 1);
        Check.states("nothing done", yard, 1, 0, 0, 0, 1, 0, 3, 0);
        Check.due("go(3)", yard.go(3), 1);
        Check.states("three done", yard, 1, 0, 0, 3, 1, 0, 8, 0);
        Check.due("go(1)", yard.go(1), 0);
        Check.states("ended", yard, 0, 3, 0, 4, 0, -1, -1, 0);
        Check.due("ended: go(1)", yard.go(1), -1);
        Check.due("ended: go(0)", yard.go(0), -1);
        Check.load(yard, 0, Check.code(24));
        yard.begin(0, 0);
        Check.due("thrown: go(1)", yard.go(1), 2);
        Check.due("thrown: go(1) again", yard.go(1), -1);
        Check.due("thrown: go(0)", yard.go(0), -1);
    }

    private static void mostInstructions() {
        CodeYard yard = new CodeYard();
        Check.load(yard, 0, RING);
        yard.begin(0, 0);
        Check.due("2000", yard.go(2000), 1);
        Check.states("2000", yard, 1, 0, 0, 2000, 1, 0, 3, 0);
        Check.due("2000, go(0)", yard.go(0), 1);
        Check.due("2001", yard.go(1), 2);
        Check.states("2001", yard, 2, 0, 6, 2000, 0, -1, -1, 0);
        yard.begin(0, 0);
        Check.due("2001 at once", yard.go(2001), 2);
        Check.states("2001 at once", yard, 2, 0, 6, 2000, 0, -1, -1, 0);
        yard.begin(0, 0);
        Check.due("the count begins anew", yard.go(1999), 1);
    }

    private static void states() {
        CodeYard yard = new CodeYard();
        Check.load(yard, 3, Check.code(0, 9, 21, 0, 8, 22));
        yard.begin(3, 0);
        yard.go(2);
        for (int what : new int[] {-1, 8, Integer.MIN_VALUE, Integer.MAX_VALUE}) {
            Check.due("state(" + what + ")", yard.state(what), -1);
        }
        Check.states("held", yard, 1, 0, 0, 2, 1, 3, 6, 1);
        yard.go(9);
        Check.states("ended", yard, 0, 8, 0, 4, 0, -1, -1, 1);
        yard.begin(3, 0);
        Check.states("begun anew", yard, 1, 0, 0, 0, 1, 3, 3, 0);
        yard.go(9);
        Check.load(yard, 4, Check.code(24));
        yard.begin(4, 0);
        yard.go(1);
        Check.states("thrown", yard, 2, 0, 1, 1, 0, -1, -1, 0);
        yard.begin(3, 0);
        Check.states("begun after a throw", yard, 1, 0, 0, 0, 1, 3, 3, 0);
    }

    private static void calls() {
        CodeYard yard = new CodeYard();
        // Code 0 calls beginning 2 of code 5 (n = 21) with things on its stack and in its locals.
        Check.load(yard, 0, Check.code(0, 40, 4, 1, 0, 30, 27, 21, 5, 3, 1, 5, 22));
        Check.load(yard, 5, 3, 4, 5, 24, 24, 3, 1, 0, 7, 5, 4, 1, 3, 1, 22);
        yard.begin(0, 0);
        yard.go(4);
        Check.states("called", yard, 1, 0, 0, 4, 2, 5, 5, 0);
        Check.due("called: stack", yard.stack(0), 0);
        Check.due("called: local", yard.local(1), 0);
        yard.go(4);
        Check.due("called: its local", yard.local(1), 7);
        yard.go(1);
        Check.due("called: its stack", yard.stack(0), 7);
        yard.go(1);
        Check.states("back", yard, 1, 0, 0, 10, 1, 0, 11, 0);
        Check.due("back: stack", yard.stack(0), 30);
        Check.due("back: what it ended with", yard.stack(1), 7);
        Check.due("back: not more", yard.stack(2), 0);
        Check.due("back: local", yard.local(1), 40);
        Check.due("to the end", yard.go(9), 0);
        Check.states("to the end", yard, 0, 77, 0, 14, 0, -1, -1, 0);
        Check.load(yard, 5, Check.code(0, 1, 23));
        Check.load(yard, 0, Check.code(27, 5, 22));
        yard.begin(0, 0);
        yard.go(3);
        Check.due("one after the other: held", yard.stack(0), 0);
        yard.go(1);
        Check.due("23 in a call brings 0", yard.state(1), 0);
        for (int n = 0; n < 24; n++) {
            CodeYard other = new CodeYard();
            for (int k = 0; k < 8; k++) {
                Check.load(other, k, 3, 6, 9, 0, k, 22, 0, 10 + k, 22, 0, 20 + k, 22, 27, n, 22);
            }
            Check.load(other, 7 - n % 8, Check.code(27, n, 22));
            other.begin(7 - n % 8, 0);
            other.go(9);
            Check.due("27 " + n, other.state(1), n / 8 * 10 + n % 8);
        }
    }

    private static void callsShareCells() {
        CodeYard yard = new CodeYard();
        // Code 0 writes cell 0, calls itself at another beginning, which reads and writes it.
        Check.load(yard, 0, 3, 12, 3, 0, 5, 2, 0, 27, 8, 1, 0, 22, 1, 0, 0, 1, 5, 2, 0, 23);
        Check.due("size", yard.size(0), 20);
        Check.load(yard, 0, 3, 13, 3, 0, 5, 2, 0, 27, 8, 14, 1, 0, 22, 1, 0, 0, 1, 5, 2, 0, 23);
        yard.begin(0, 0);
        Check.due("shared: go", yard.go(20), 0);
        Check.due("shared", yard.state(1), 6);
        Check.due("shared: cell", yard.cell(0, 0), 6);
        // Input and the out are the run's too.
        Check.load(yard, 1, Check.code(20, 21, 0, 0, 19, 22));
        Check.load(yard, 2, Check.code(0, 77, 21, 27, 1, 21, 23));
        Check.tape(yard, 44, 45);
        yard.begin(2, 0);
        yard.go(20);
        Check.due("out", yard.state(7), 3);
        Check.due("out(0)", yard.out(0), 77);
        Check.due("out(1)", yard.out(1), 2);
        Check.due("out(2)", yard.out(2), 44);
    }

    private static void callOfTheNewCode() {
        CodeYard yard = new CodeYard();
        Check.load(yard, 0, Check.code(27, 1, 22));
        Check.load(yard, 1, Check.code(0, 1, 22));
        Check.load(yard, 1, Check.code(0, 2, 22));
        yard.begin(0, 0);
        yard.go(9);
        Check.due("the code as it is then", yard.state(1), 2);
    }

    private static void noCode() {
        CodeYard yard = new CodeYard();
        Check.load(yard, 0, Check.code(0, 5, 2, 0, 27, 1, 22));
        yard.begin(0, 0);
        Check.due("no code", yard.go(9), 2);
        Check.states("no code", yard, 2, 0, 4, 3, 0, -1, -1, 0);
        Check.due("no code: cell", yard.cell(0, 0), 0);
        Check.load(yard, 1, Check.code(0, 5, 22));
        yard.begin(0, 0);
        Check.due("now it is there", yard.go(9), 0);
        Check.due("now it is there: answer", yard.state(1), 5);
    }

    private static void ninth() {
        CodeYard yard = new CodeYard();
        // Code 0 counts in cell 0 and calls itself as long as that is below what input's first byte tells.
        Check.load(yard, 0, Check.code(1, 0, 0, 1, 5, 13, 2, 0, 0, 0, 19, 18, 17, 23, 27, 0, 22));
        Check.due("size", yard.size(0), 20);
        Check.tape(yard, 8);
        yard.begin(0, 0);
        Check.due("eight: held", yard.go(62), 1);
        Check.states("eight: held", yard, 1, 0, 0, 62, 7, 0, 17, 0);
        Check.due("eight: called", yard.go(1), 1);
        Check.due("eight within one another", yard.state(4), 8);
        Check.due("eight", yard.go(2001), 0);
        Check.due("eight: cell", yard.cell(0, 0), 8);
        Check.load(yard, 0, Check.code(27, 0, 22));
        yard.begin(0, 0);
        Check.due("seven calls", yard.go(7), 1);
        Check.due("seven calls: eight", yard.state(4), 8);
        Check.due("nine", yard.go(1), 2);
        Check.states("nine", yard, 2, 0, 5, 8, 0, -1, -1, 0);
        yard.begin(0, 0);
        Check.due("nine at once", yard.go(2001), 2);
        Check.states("nine at once", yard, 2, 0, 5, 8, 0, -1, -1, 0);
        // One behind the other, calls are as many as one likes.
        Check.load(yard, 1, Check.code(23));
        Check.load(yard, 2, Check.code(Check.join(Check.times(20, 27, 1, 14), new int[] {23})));
        yard.begin(2, 0);
        Check.due("twenty calls", yard.go(2001), 0);
        Check.due("twenty calls: done", yard.state(3), 61);
        missingNinth();
    }

    /** Where a ninth would be of a code that is not there, no ninth can begin: reason 4. */
    private static void missingNinth() {
        CodeYard yard = new CodeYard();
        for (int k = 0; k < 7; k++) {
            Check.load(yard, k, Check.code(27, k + 1, 22));
        }
        Check.load(yard, 7, 3, 6, 3, 27, 8 + 7, 22, 27, 0, 22);
        yard.begin(0, 0);
        Check.due("missing: ninth", yard.go(2001), 2);
        Check.due("missing: ninth, reason", yard.state(2), 5);
        CodeYard less = new CodeYard();
        for (int k = 0; k < 6; k++) {
            Check.load(less, k, Check.code(27, k + 1, 22));
        }
        Check.load(less, 6, 3, 6, 3, 27, 8 + 6, 22, 27, 7, 22);
        less.begin(0, 0);
        Check.due("missing: go", less.go(7), 1);
        Check.due("missing: eight", less.state(4), 8);
        Check.due("missing: thrown", less.go(1), 2);
        Check.due("missing: reason", less.state(2), 4);
    }

    private static void undoneByThrow() {
        CodeYard yard = new CodeYard();
        Check.load(yard, 0, 3, 10, 3, 0, 5, 2, 0, 27, 1, 22, 0, 3, 2, 0, 23);
        Check.due("size", yard.size(0), 15);
        Check.load(yard, 1, 3, 8, 3, 0, 6, 2, 15, 24, 0, 4, 2, 15, 23);
        yard.begin(0, 1);
        yard.go(9);
        yard.begin(1, 1);
        yard.go(9);
        Check.due("before", yard.cell(0, 0), 3);
        Check.due("before", yard.cell(1, 15), 4);
        yard.begin(0, 0);
        Check.due("held", yard.go(5), 1);
        Check.due("held: cell", yard.cell(0, 0), 5);
        Check.due("held: cell of the called", yard.cell(1, 15), 6);
        Check.due("thrown in a call: wholly", yard.go(1), 2);
        Check.states("thrown", yard, 2, 0, 1, 6, 0, -1, -1, 0);
        Check.due("thrown: cell", yard.cell(0, 0), 3);
        Check.due("thrown: cell of the called", yard.cell(1, 15), 4);
        Check.load(yard, 2, Check.code(1, 0, 0, 1, 5, 2, 0, 16, 3));
        yard.begin(2, 0);
        yard.go(2000);
        Check.due("2000: cell", yard.cell(2, 0), 400);
        yard.go(1);
        Check.due("2001: cell", yard.cell(2, 0), 0);
        Check.due("2001: other cells", yard.cell(0, 0), 3);
    }

    private static void outStays() {
        CodeYard yard = new CodeYard();
        Check.load(yard, 0, Check.code(0, 5, 21, 0, 6, 21, 24));
        Check.load(yard, 1, Check.code(0, 7, 21, 23));
        yard.begin(0, 0);
        yard.go(9);
        Check.due("thrown: the out stays", yard.state(7), 2);
        Check.due("thrown: out(1)", yard.out(1), 6);
        Check.load(yard, 2, Check.code(23));
        Check.due("a load leaves it", yard.out(0), 5);
        yard.begin(1, 0);
        Check.due("begun: nothing", yard.out(0), -1);
        Check.due("begun: nothing", yard.state(7), 0);
        yard.go(2);
        Check.due("held: out(0)", yard.out(0), 7);
        Check.due("held: out(1)", yard.out(1), -1);
        yard.go(1);
        Check.due("ended: out(0)", yard.out(0), 7);
    }

    private static void stackAndLocals() {
        CodeYard yard = new CodeYard();
        int[] pushes = {0, 1, 0, 2, 0, 3, 0, 4, 0, 5, 0, 6, 0, 7, 0, 8};
        Check.load(yard, 0, Check.code(Check.join(new int[] {0, 9, 4, 7, 0, 10, 4, 0}, pushes, new int[] {22})));
        yard.begin(0, 0);
        yard.go(12);
        for (int i = 0; i < 8; i++) {
            Check.due("stack(" + i + ")", yard.stack(i), i + 1);
            Check.due("local(" + i + ")", yard.local(i), i == 7 ? 9 : i == 0 ? 10 : 0);
        }
        for (int i : new int[] {-1, 8, Integer.MIN_VALUE, Integer.MAX_VALUE}) {
            Check.due("stack(" + i + ")", yard.stack(i), 0);
            Check.due("local(" + i + ")", yard.local(i), 0);
        }
        yard.go(1);
        Check.due("ended", yard.state(0), 0);
        Check.due("ended: stack", yard.stack(0), 0);
        Check.due("ended: local", yard.local(7), 0);
        Check.load(yard, 0, Check.code(0, 9, 13, 4, 2, 24));
        yard.begin(0, 0);
        Check.due("new run: local", yard.local(7), 0);
        yard.go(3);
        Check.due("held: stack", yard.stack(0), 9);
        Check.due("held: what was taken", yard.stack(1), 0);
        Check.due("held: local", yard.local(2), 9);
        yard.go(1);
        Check.due("thrown: stack", yard.stack(0), 0);
        Check.due("thrown: local", yard.local(2), 0);
    }

    private static void cells() {
        CodeYard yard = new CodeYard();
        for (int k = 0; k < 8; k++) {
            Check.load(yard, k, Check.code(0, 30 + k, 2, k, 0, 40 + k, 2, 15 - k, 23));
            yard.begin(k, 0);
            yard.go(k % 2 == 0 ? 2001 : 5);
        }
        for (int k = 0; k < 8; k++) {
            for (int i = -1; i <= 16; i++) {
                int want = i == k ? 30 + k : i == 15 - k ? 40 + k : 0;
                Check.due("cell(" + k + ", " + i + ")", yard.cell(k, i), want);
            }
        }
        for (int wrong : new int[] {-1, 8, Integer.MIN_VALUE, Integer.MAX_VALUE}) {
            Check.due("cell(" + wrong + ", 0)", yard.cell(wrong, 0), 0);
        }
        for (int wrong : new int[] {-1, 16, Integer.MIN_VALUE, Integer.MAX_VALUE}) {
            Check.due("cell(0, " + wrong + ")", yard.cell(0, wrong), 0);
        }
    }
}
