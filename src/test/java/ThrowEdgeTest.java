/** The edges of a run: how it and a call within it begin, what throws, and what is undone then. */
public final class ThrowEdgeTest {
    private static final int LEAST = Integer.MIN_VALUE;
    private static final int MOST = Integer.MAX_VALUE;
    /** Counts the runs in cell 0 and puts that out, then goes on behind place 11. */
    private static final int[] HEAD = {1, 0, 0, 1, 5, 13, 2, 0, 21};
    private static final int HEAD_DONE = 6;

    public static void main(String[] args) {
        begun();
        called();
        undone();
        reasons();
        within();
        instructionCount();
        Check.finish();
    }

    private static void begun() {
        Check.sentence("A RUN begins with an empty STACK, LOCALS 0", () -> {
            CodeYard yard = Check.yard(0, 5, 4, 0, 0, 6, 4, 7, 0, 7, 0, 8, 16, 15);
            for (int round = 0; round < 2; round++) {
                yard.begin(0, 0);
                for (int i = 0; i < 8; i++) {
                    Check.due("stack(" + i + ")", yard.stack(i), 0);
                    Check.due("local(" + i + ")", yard.local(i), 0);
                }
                yard.go(7);
                Check.due("then: stack(1)", yard.stack(1), 8);
                Check.due("then: local(7)", yard.local(7), 6);
            }
        });
        Check.sentence("A RUN of a CODE begins at a BEGINNING", () -> {
            CodeYard yard = new CodeYard();
            Check.load(yard, 0, 4, 3, 5, 23, 23, 23);
            int[] places = {4, 3, 5};
            for (int b = 0; b < 3; b++) {
                yard.begin(0, b);
                Check.due("its place", yard.state(6), places[b]);
            }
        });
    }

    private static void called() {
        Check.sentence("A CALL begins CODE n % 8 with a STACK and LOCALS of its own", () -> {
            // Called twice: the second time nothing of the first is there.
            CodeYard yard = Check.yard(0, 50, 4, 0, 0, 60, 27, 1, 27, 1, 3, 0, 22);
            Check.load(yard, 1, Check.code(0, 7, 0, 8, 4, 0, 3, 7, 14, 22));
            yard.begin(0, 0);
            yard.go(3);
            for (int round = 0; round < 2; round++) {
                Check.due("before: local(0)", yard.local(0), 50);
                yard.go(1);
                Check.states("called", yard, 1, 0, 0, 4 + 7 * round, 2, 1, 3);
                for (int i = 0; i < 8; i++) {
                    Check.due("called: stack(" + i + ")", yard.stack(i), 0);
                    Check.due("called: local(" + i + ")", yard.local(i), 0);
                }
                yard.go(3);
                Check.due("at work: stack(0)", yard.stack(0), 7);
                Check.due("at work: local(0)", yard.local(0), 8);
                yard.go(3);
                Check.due("back: stack(0)", yard.stack(0), 60);
                Check.due("back: what it ended with", yard.stack(1 + round), 7);
                Check.due("back: nothing above", yard.stack(2 + round), 0);
            }
            Check.due("to the end", yard.go(2), 0);
            Check.due("its own LOCAL", yard.state(1), 50);
        });
        Check.sentence("(that as it is then)", () -> {
            CodeYard yard = Check.yard(27, 1, 22);
            for (int v = 1; v <= 3; v++) {
                Check.load(yard, 1, Check.code(0, v, 22));
                yard.begin(0, 0);
                yard.go(9);
                Check.due("the CODE that is there", yard.state(1), v);
            }
            Check.due("one that is not taken", Check.load(yard, 1, Check.code(28)), -2003);
            yard.begin(0, 0);
            yard.go(9);
            Check.due("the one before it", yard.state(1), 3);
        });
        Check.sentence("the one that called goes on behind it", () -> {
            CodeYard yard = Check.yard(27, 1, 14, 27, 1, 22);
            Check.load(yard, 1, Check.code(23));
            yard.begin(0, 0);
            int[] places = {3, 3, 5, 6, 3, 8};
            int[] codes = {0, 1, 0, 0, 1, 0};
            for (int i = 0; i < places.length; i++) {
                Check.due("the CODE", yard.state(5), codes[i]);
                Check.due("the place", yard.state(6), places[i]);
                yard.go(1);
            }
            Check.due("it has ended", yard.state(0), 0);
        });
        Check.sentence("CALL: what that ends with", () -> {
            for (int v : new int[] {0, -1, LEAST, MOST}) {
                CodeYard yard = Check.yard(27, 1, 22);
                Check.load(yard, 1, Check.code(Check.join(Check.number(v), new int[] {22})));
                yard.begin(0, 0);
                yard.go(99);
                Check.due("22", yard.state(1), v);
            }
            CodeYard yard = Check.yard(0, 9, 27, 1, 22);
            Check.load(yard, 1, Check.code(0, 5, 23));
            yard.begin(0, 0);
            yard.go(9);
            Check.due("23", yard.state(1), 0);
        });
    }

    /** A run of code 0 that has thrown: what state tells, and no stack and locals any more. */
    private static void thrown(CodeYard yard, int reason, int done, int out) {
        Check.states("thrown", yard, 2, 0, reason, done, 0, -1, -1, out, -1);
        Check.due("thrown: stack(0)", yard.stack(0), 0);
        Check.due("thrown: local(0)", yard.local(0), 0);
        Check.due("thrown: go(1)", yard.go(1), -1);
    }

    private static void undone() {
        Check.sentence("It THROWS, wholly, with all CELLS as they were when the RUN began", () -> {
            CodeYard yard = new CodeYard();
            // Codes 0 to 7 at beginning 0: cell 15 becomes 20 and the next is called; the last throws.
            // At beginning 1: cell 15 becomes 5 and it ends.
            for (int k = 0; k < 8; k++) {
                int[] next = k < 7 ? new int[] {27, k + 1, 22} : new int[] {0, 0, 24};
                int[] head = {3, 10, 3, 0, 20, 2, 15};
                Check.load(yard, k, Check.join(head, next, new int[] {0, 5, 2, 15, 23}));
                yard.begin(k, 1);
                Check.due("go", yard.go(3), 0);
            }
            yard.begin(0, 0);
            Check.due("held", yard.go(3 * 8), 1);
            for (int k = 0; k < 8; k++) {
                Check.due("held: CELL 15 of " + k, yard.cell(k, 15), 20);
            }
            Check.due("thrown", yard.go(1), 2);
            thrown(yard, 1, 25, 0);
            for (int k = 0; k < 8; k++) {
                Check.due("thrown: CELL 15 of " + k, yard.cell(k, 15), 5);
            }
        });
        Check.sentence("CELLS as they were when the RUN began, not as its last go began", () -> {
            CodeYard yard = Check.yard(Check.join(HEAD, new int[] {24}));
            for (int round = 0; round < 2; round++) {
                yard.begin(0, 0);
                for (int i = 0; i < HEAD_DONE; i++) {
                    Check.due("held", yard.go(1), 1);
                }
                Check.due("held: CELL 0", yard.cell(0, 0), 1);
                Check.due("thrown", yard.go(1), 2);
                Check.due("thrown: CELL 0", yard.cell(0, 0), 0);
            }
        });
        Check.sentence("an ended RUN is not undone by a later one's throw", () -> {
            CodeYard yard = new CodeYard();
            Check.load(yard, 0, Check.join(new int[] {3, 13, 3}, HEAD, new int[] {23, 24}));
            for (int round = 1; round <= 2; round++) {
                yard.begin(0, 0);
                Check.due("ends", yard.go(9), 0);
                yard.begin(0, 1);
                Check.due("throws", yard.go(9), 2);
                Check.due("CELL 0", yard.cell(0, 0), round);
            }
        });
        Check.sentence("THE OUT stays as it is then", () -> {
            CodeYard yard = Check.yard(0, 1, 21, 0, 2, 21, 24);
            yard.begin(0, 0);
            Check.due("go", yard.go(9), 2);
            Check.due("bytes", yard.state(7), 2);
            Check.due("out(0)", yard.out(0), 1);
            Check.due("out(1)", yard.out(1), 2);
            Check.due("out(2)", yard.out(2), -1);
        });
    }

    /** HEAD, then these, with some input of two bytes: it throws at the last of them. */
    private static void throwsAt(int reason, int done, int... rest) {
        CodeYard yard = Check.yard(Check.join(HEAD, rest, new int[] {14, 23}));
        Check.tape(yard, 3, 4);
        yard.begin(0, 0);
        Check.due("held", yard.go(HEAD_DONE + done - 1), 1);
        Check.due("held: CELL 0", yard.cell(0, 0), 1);
        Check.due("thrown", yard.go(1), 2);
        thrown(yard, reason, HEAD_DONE + done, 1);
        Check.due("thrown: CELL 0", yard.cell(0, 0), 0);
        Check.due("thrown: out(0)", yard.out(0), 1);
    }

    private static void reasons() {
        Check.sentence("by: 24, 25, 26 (reason 1)", () -> {
            throwsAt(1, 2, 0, 9, 24);
            throwsAt(1, 3, 0, 9, 0, 0, 25);
            throwsAt(1, 3, 0, 9, 0, 0, 26);
        });
        Check.sentence("19 without such a byte (2)", () -> {
            throwsAt(2, 2, 0, 2, 19);
            throwsAt(2, 2, 0, 255, 19);
            throwsAt(2, 2, 0, 127, 19);
            throwsAt(2, 14, Check.join(Check.number(LEAST), new int[] {19}));
            throwsAt(2, 14, Check.join(Check.number(MOST), new int[] {19}));
            CodeYard yard = Check.yard(0, 0, 19, 22);
            yard.begin(0, 0);
            Check.due("INPUT is empty", yard.go(9), 2);
            thrown(yard, 2, 2, 0);
            Check.tape(yard, 9);
            yard.begin(0, 0);
            Check.due("INPUT has one", yard.go(9), 0);
            Check.due("that one", yard.state(1), 9);
            int[] most = Check.times(300, 1);
            CodeYard full = Check.yard(20, 19, 22);
            Check.tape(full, most);
            full.begin(0, 0);
            Check.due("byte 300", full.go(9), 2);
            thrown(full, 2, 2, 0);
        });
        Check.sentence("21 with 64 bytes there (3)", () -> {
            // Input's first byte tells how many are put out: 3: 3 0, 5: 13, 6: 21, 7: 0 1, 9: 5, 10: 4 0,
            // 12: 3 0, 14: 0 0, 16: 19, 17: 18 3, 19: 23
            CodeYard yard = Check.yard(3, 0, 13, 21, 0, 1, 5, 4, 0, 3, 0, 0, 0, 19, 18, 3, 23);
            for (int n : new int[] {63, 64, 65}) {
                Check.tape(yard, n);
                yard.begin(0, 0);
                Check.due(n + " bytes", yard.go(2001), n > 64 ? 2 : 0);
                Check.states(n + " bytes", yard, n > 64 ? 2 : 0, 0, n > 64 ? 3 : 0);
                Check.due(n + " bytes: there", yard.state(7), Math.min(n, 64));
                for (int i = 60; i < 66; i++) {
                    Check.due(n + " bytes: out(" + i + ")", yard.out(i), i < Math.min(n, 64) ? i : -1);
                }
            }
            Check.due("the one that throws is counted", yard.state(3), 64 * 10 + 3);
        });
        Check.sentence("27 of a CODE that is not there (4)", () -> {
            for (int n = 0; n <= 23; n++) {
                if (n % 8 != 0) {
                    throwsAt(4, 1, 27, n);
                }
            }
            CodeYard yard = Check.yard(27, 7, 22);
            Check.load(yard, 7, Check.code(28));
            yard.begin(0, 0);
            Check.due("one that was not SOUND", yard.go(9), 2);
            thrown(yard, 4, 1, 0);
            Check.load(yard, 7, Check.code(23));
            yard.begin(0, 0);
            Check.due("one that is there", yard.go(9), 0);
        });
    }

    private static void within() {
        Check.sentence("a ninth within one another (5; the RUN itself is the first)", () -> {
            CodeYard yard = Check.yard(1, 0, 0, 1, 5, 2, 0, 27, 0, 22);
            yard.begin(0, 0);
            for (int level = 1; level <= 8; level++) {
                Check.due("held: within", yard.state(4), level);
                Check.due("go(4)", yard.go(4), 1);
                Check.due("CELL 0", yard.cell(0, 0), level);
                Check.due("the CALL", yard.go(1), level < 8 ? 1 : 2);
            }
            thrown(yard, 5, 40, 0);
            Check.due("CELL 0", yard.cell(0, 0), 0);
        });
        Check.sentence("eight within one another may be", () -> {
            CodeYard yard = new CodeYard();
            for (int k = 0; k < 8; k++) {
                Check.load(yard, k, k < 7 ? Check.code(27, k + 1, 0, 1, 5, 22) : Check.code(0, 1, 22));
            }
            yard.begin(0, 0);
            Check.due("held", yard.go(7), 1);
            Check.states("held", yard, 1, 0, 0, 7, 8, 7, 3, 0);
            Check.due("go", yard.go(99), 0);
            Check.due("each has added one", yard.state(1), 8);
        });
        Check.sentence("calls behind one another are not within one another", () -> {
            CodeYard yard = Check.yard(Check.join(Check.times(50, 27, 1, 14), new int[] {23}));
            Check.load(yard, 1, Check.code(23));
            yard.begin(0, 0);
            Check.due("go", yard.go(2001), 0);
            Check.due("done", yard.state(3), 151);
        });
    }

    private static void instructionCount() {
        Check.sentence("INSTRUCTION 2001 (6)", () -> {
            CodeYard yard = Check.yard(1, 0, 0, 1, 5, 13, 2, 0, 4, 0, 20, 14, 16, 3);
            yard.begin(0, 0);
            Check.due("2000 of them", yard.go(2000), 1);
            Check.states("2000 of them", yard, 1, 0, 0, 2000, 1, 0);
            Check.due("2000 of them: CELL 0", yard.cell(0, 0), 222);
            Check.due("no more", yard.go(0), 1);
            Check.due("one more", yard.go(1), 2);
            thrown(yard, 6, 2000, 0);
            Check.due("one more: CELL 0", yard.cell(0, 0), 0);
            yard.begin(0, 0);
            Check.due("in several goes", yard.go(1000) + yard.go(999) + yard.go(1), 3);
            Check.due("one more", yard.go(2001), 2);
            thrown(yard, 6, 2000, 0);
            yard.begin(0, 0);
            Check.due("at once", yard.go(2001), 2);
            thrown(yard, 6, 2000, 0);
        });
        Check.sentence("INSTRUCTION 2001, those of calls counted", () -> {
            CodeYard yard = Check.yard(27, 1, 14, 16, 3);
            Check.load(yard, 1, Check.code(20, 22));
            yard.begin(0, 0);
            Check.due("2000 of them", yard.go(2000), 1);
            Check.states("2000 of them", yard, 1, 0, 0, 2000, 1, 0, 3);
            Check.due("one more", yard.go(1), 2);
            thrown(yard, 6, 2000, 0);
        });
        Check.sentence("INSTRUCTION 2000 may end it, or throw by itself", () -> {
            lastOneAt(1999, 23, 0, 0);
            lastOneAt(2000, 23, 0, 0);
            lastOneAt(2000, 24, 2, 1);
            lastOneAt(2001, 23, 2, 6);
            lastOneAt(2001, 24, 2, 6);
        });
    }

    /** A code that comes to its last instruction, of one byte, as just the one with that number. */
    private static void lastOneAt(int number, int last, int answer, int reason) {
        // Three rings like 3: 0 -127, 5: 0 1, 7: 5, 8: 13, 9: 17 13, 11: 16 5, each of 127 rounds, of five
        // instructions but for the last round; then what is missing.
        int[] rings = {};
        for (int from = 3; from < 33; from += 10) {
            rings = Check.join(rings, new int[] {0, -127, 0, 1, 5, 13, 17, from + 10, 16, from + 2});
        }
        int rest = number - 1 - 3 * (1 + 127 * 5 - 1);
        int[] fill = java.util.Arrays.copyOf(Check.times(rest, 20, 14), rest);
        CodeYard yard = Check.yard(Check.join(rings, fill, new int[] {last}));
        yard.begin(0, 0);
        String what = "INSTRUCTION " + number + " is " + last;
        Check.due(what, yard.go(2001), answer);
        Check.due(what + ": reason", yard.state(2), reason);
        Check.due(what + ": done", yard.state(3), Math.min(number, 2000));
    }
}
