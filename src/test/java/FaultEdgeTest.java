/** The edges of what is SOUND: each fault just told and just not told, and which of several counts. */
public final class FaultEdgeTest {
    private static final int[] TAKES = {0, 0, 1, 0, 1, 2, 2, 2, 2, 2, 2, 2, 2, 1, 1, 2, 0, 1, 2, 1, 0, 1, 1, 0, 0,
        2, 2, 0};
    private static final int[] GIVES = {1, 1, 0, 1, 0, 1, 1, 1, 1, 1, 1, 1, 1, 2, 0, 2, 0, 0, 0, 1, 1, 0, 0, 0, 0,
        1, 1, 1};

    public static void main(String[] args) {
        sound();
        lengths();
        reading();
        operands();
        lastOnes();
        places();
        severalFaults();
        stackFaults();
        heightFaults();
        ways();
        order();
        Check.finish();
    }

    /** What load answers to these bytes; the tape is empty then, and the code is there if it is sound. */
    private static void bytes(int want, int... bytes) {
        CodeYard yard = new CodeYard();
        String what = java.util.Arrays.toString(bytes);
        Check.due(what, Check.load(yard, 7, bytes), want);
        Check.due(what + ": size", yard.size(7), want > 0 ? bytes.length : -1);
        Check.due(what + ": the tape is empty", yard.end(1), -1);
    }

    private static void body(int want, int... instructions) {
        bytes(want, Check.code(instructions));
    }

    private static boolean isJump(int op) {
        return op >= 16 && op <= 18;
    }

    private static boolean hasOperand(int op) {
        return op <= 4 || isJump(op) || op == 27;
    }

    private static boolean mayBeLast(int op) {
        return op == 16 || op == 22 || op == 23 || op == 24;
    }

    /** The instruction at this place; where it jumps, to the place behind it. */
    private static int[] one(int op, int place) {
        return hasOperand(op) ? new int[] {op, isJump(op) ? place + 2 : 7} : new int[] {op};
    }

    private static void sound() {
        Check.sentence("SOUND is a CODE just if none of these can be told of it", () -> {
            body(1, 16, 3);
            body(1, 23);
            body(1, 24);
            body(2, 20, 22);
            int[] all = {};
            int many = 0;
            for (int op = 0; op <= 27; op++) {
                if (op < 22 || op > 24) {
                    int[] given = Check.times(TAKES[op], 20);
                    int[] gone = Check.times(GIVES[op], 14);
                    all = Check.join(all, given, one(op, 3 + all.length + given.length), gone);
                    many += given.length + 1 + gone.length;
                }
            }
            body(many + 4, Check.join(all, new int[] {20, 22, 23, 24}));
        });
    }

    private static void lengths() {
        Check.sentence("1 it has less than 4 bytes (place: how many)", () -> {
            bytes(-1000);
            bytes(-1001, 23);
            bytes(-1002, 3, 3);
            bytes(-1003, 3, 3, 3);
            bytes(1, 3, 3, 3, 23);
        });
        Check.sentence("1 or more than 256 (place: how many)", () -> {
            body(252, Check.times(252, 23));
            body(253, Check.times(253, 23));
            body(-1257, Check.times(254, 23));
            body(-1299, Check.times(296, 23));
            body(-1300, Check.times(297, 23));
        });
    }

    private static void reading() {
        Check.sentence("2 an INSTRUCTION above 27 (its place)", () -> {
            body(2, 27, 0, 24);
            body(-2003, 28);
            body(-2003, 255);
            body(-2004, 23, 128);
            body(-2255, Check.join(Check.times(252, 23), new int[] {28}));
        });
        Check.sentence("read one behind the other from place 3 on", () -> {
            body(2, 0, 28, 23);
            body(-2005, 0, 28, 28);
            bytes(-6000, 28, 3, 3, 23);
            bytes(-6002, 3, 3, 255, 23);
        });
        Check.sentence("3 without its operand (its place)", () -> {
            for (int op = 0; op <= 27; op++) {
                body(hasOperand(op) ? -3004 : mayBeLast(op) ? 2 : -5004, 23, op);
            }
            body(-3003, 16);
            body(-3255, Check.join(Check.times(252, 23), new int[] {16}));
        });
        Check.sentence("where 2, 3 and 4 come, the first place counts", () -> {
            body(-2003, 28, 28);
            body(-2003, 28, 0);
            body(-2003, 28, 1, 16, 23);
            body(-4003, 1, 16, 28);
            body(-4003, 27, 24, 16);
            body(-4003, 4, 8, 2, 16, 23);
            body(-4005, 0, 0, 27, 255, 28, 3, 8, 16);
            body(-3005, 0, 0, 1);
        });
    }

    private static void operands() {
        Check.sentence("4 n above 15 of 1, 2 (the INSTRUCTION's place)", () -> mostOperand(15, 1, 2));
        Check.sentence("4 above 7 of 3, 4", () -> mostOperand(7, 3, 4));
        Check.sentence("4 above 23 of 27", () -> mostOperand(23, 27));
        Check.sentence("no n of 0, 16, 17, 18 is too great", () -> {
            body(2, 0, 255, 23);
            for (int op = 16; op <= 18; op++) {
                body(3 + 249, Check.join(new int[] {20, 20, op, 255}, Check.times(249, 23)));
            }
        });
    }

    private static void mostOperand(int most, int... ops) {
        for (int op : ops) {
            body(3, 20, op, 0, 23);
            body(3, 20, op, most, 23);
            body(-4004, 20, op, most + 1, 23);
            body(-4004, 20, op, 128, 23);
            body(-4004, 20, op, 255, 23);
        }
    }

    private static void lastOnes() {
        Check.sentence("5 the last one is not 16, 22, 23, 24 (its place)", () -> {
            for (int op = 0; op <= 27; op++) {
                // The ring at place 3 alone is come to, so that the last one's heights don't matter.
                int[] last = hasOperand(op) ? new int[] {op, 3} : new int[] {op};
                body(mayBeLast(op) ? 2 : -5005, Check.join(new int[] {16, 3}, last));
            }
            body(-5003, 17, 3);
            body(-5003, 0, 23);
            body(-5004, 23, 0, 16);
            body(-5255, Check.join(Check.times(252, 23), new int[] {20}));
        });
    }

    private static void places() {
        Check.sentence("6 a BEGINNING is no INSTRUCTION's place (the place of the byte that tells it)", () -> {
            for (int b = 0; b < 3; b++) {
                for (int place : new int[] {0, 1, 2, 4, 6, 255}) {
                    int[] all = {5, 5, 5, 0, 3, 23};
                    all[b] = place;
                    bytes(-6000 - b, all);
                }
            }
            bytes(2, 5, 5, 5, 0, 3, 23);
            bytes(2, 3, 3, 3, 0, 5, 23);
        });
        Check.sentence("6 n of 16 to 18 is no INSTRUCTION's place (the place of the byte that tells it)", () -> {
            for (int op = 16; op <= 18; op++) {
                for (int n : new int[] {0, 1, 2, 6, 8, 255}) {
                    body(-6006, 20, 20, op, n, 23);
                }
                body(4, 20, 20, op, 7, 23);
                body(-6005, 23, op, 5, 23);
            }
            body(-6255, Check.join(Check.times(251, 23), new int[] {16, 0}));
        });
        Check.sentence("of several places the least one", () -> {
            bytes(-6000, 0, 0, 0, 23);
            bytes(-6001, 3, 0, 0, 23);
            bytes(-6002, 3, 3, 0, 16, 0);
            body(-6004, 16, 0, 16, 0);
            body(-6005, 20, 17, 0, 18, 0, 16, 0);
        });
    }

    private static void severalFaults() {
        Check.sentence("the FAULT with the least number counts", () -> {
            bytes(-1003, 28, 28, 28);
            bytes(-1257, Check.times(257, 255));
            bytes(-2004, 0, 0, 0, 23, 28);
            bytes(-3004, 0, 0, 0, 23, 0);
            bytes(-4004, 0, 0, 0, 23, 1, 16, 5);
            bytes(-5004, 0, 0, 0, 14, 14);
            body(-5004, 14, 14);
            body(-5005, 16, 0, 14);
            bytes(-6000, 0, 3, 3, 14, 23);
            body(-6005, 14, 16, 0);
            body(-6007, 20, 16, 3, 16, 0);
        });
    }

    /** With so many on the stack, then this instruction: what load answers, and the height behind it. */
    private static void onto(int there, int op, boolean fault) {
        int place = 3 + there;
        int[] it = one(op, place);
        CodeYard yard = new CodeYard();
        int[] all = Check.code(Check.join(Check.times(there, 20), it, new int[] {23}));
        Check.due(op + " onto " + there, Check.load(yard, 0, all), fault ? -7000 - place : there + 2);
        boolean goesOn = !fault && (op < 22 || op > 24);
        int behind = goesOn ? there - TAKES[op] + GIVES[op] : -1;
        Check.due(op + " onto " + there + ": behind it", yard.height(0, place + it.length), behind);
    }

    private static void stackFaults() {
        Check.sentence("7 it takes what is not there (its place)", () -> {
            for (int op = 0; op <= 27; op++) {
                for (int there = 0; there <= 3; there++) {
                    onto(there, op, there < TAKES[op]);
                }
            }
        });
        Check.sentence("7 or would leave more than 8 (its place)", () -> {
            for (int op = 0; op <= 27; op++) {
                onto(7, op, false);
                onto(8, op, GIVES[op] > TAKES[op]);
            }
        });
    }

    private static void heightFaults() {
        Check.sentence("8 a place that is come to with another number than before (that place)", () -> {
            body(-8003, 20, 16, 3);
            body(3, 20, 14, 16, 3);
            body(-8004, 20, 17, 4, 23);
            body(3, 20, 17, 6, 23);
            body(-8008, 20, 17, 8, 20, 20, 23);
            body(5, 20, 17, 8, 20, 14, 23);
            body(-8007, 20, 17, 7, 20, 23);
            bytes(-8004, 3, 3, 4, 20, 23);
            bytes(3, 3, 5, 5, 20, 14, 23);
            // Only by the way back: 3: 16 7, 5: 20, 6: 23, 7: 20, 8: 16 5, with beginning 5
            bytes(-8005, 3, 5, 3, 16, 7, 20, 23, 20, 16, 5);
            bytes(5, 3, 3, 3, 16, 7, 20, 23, 20, 16, 5);
        });
        Check.sentence("gone through from each BEGINNING, with nothing on the STACK", () -> {
            for (int b = 0; b < 3; b++) {
                int[] all = {3, 3, 3, 23, 14, 23};
                bytes(3, all);
                all[b] = 4;
                bytes(-7004, all);
            }
        });
    }

    private static void ways() {
        Check.sentence("16: at n alone", () -> {
            body(3, 16, 6, 14, 23);
            body(-7005, 16, 5, 14, 23);
            CodeYard yard = Check.yard(16, 6, 20, 23);
            Check.due("behind it", yard.height(0, 5), -1);
            Check.due("at n", yard.height(0, 6), 0);
        });
        Check.sentence("17, 18: both", () -> {
            body(-7006, 20, 17, 7, 14, 23);
            body(-7007, 20, 17, 7, 23, 14, 23);
            body(-7007, 20, 20, 18, 8, 14, 23);
            body(-7008, 20, 20, 18, 8, 23, 14, 23);
        });
        Check.sentence("17, 18: the lesser place first", () -> {
            // Both ways come to beginnings, with another number: n behind it, then n ahead of it.
            bytes(-8007, 3, 7, 8, 20, 20, 17, 8, 23, 23);
            bytes(-8008, 3, 8, 9, 20, 20, 20, 18, 9, 23, 23);
            bytes(-8005, 3, 5, 10, 16, 6, 23, 20, 20, 17, 5, 23);
            bytes(-8005, 3, 5, 11, 16, 6, 23, 20, 20, 20, 18, 5, 23);
        });
        Check.sentence("22, 23, 24: nothing", () -> {
            for (int op = 22; op <= 24; op++) {
                body(4, 20, op, 5, 23);
                CodeYard yard = Check.yard(20, op, 20, 23);
                Check.due("behind " + op, yard.height(0, 5), -1);
            }
        });
    }

    private static void order() {
        Check.sentence("the three BEGINNINGS being come to first", () -> {
            // 3: 20, 4: 14, 5: 14, 6: 23; from 3 alone, 5 would take what is not there.
            bytes(-7005, 3, 3, 3, 20, 14, 14, 23);
            bytes(-8004, 3, 4, 3, 20, 14, 14, 23);
            bytes(-8004, 3, 3, 4, 20, 14, 14, 23);
            bytes(-8004, 4, 3, 3, 20, 14, 14, 23);
        });
        Check.sentence("it is always the least place that was come to and not gone through yet", () -> {
            // 3: 20, 4: 14, 5: 14, 6: 23, 7: 14, 8: 23; 7 was come to before 5.
            bytes(-7005, 3, 7, 7, 20, 14, 14, 23, 14, 23);
            bytes(-7005, 7, 7, 3, 20, 14, 14, 23, 14, 23);
            // 3: 16 8, 5: 14, 6: 16 12, 8: 20, 9: 17 5, 11: 14, 12: 23; back to 5 before 11.
            body(-7005, 16, 8, 14, 16, 12, 20, 17, 5, 14, 23);
            // 3: 16 8, 5: 23, 6: 23, 7: 23, 8: 20, 9: 17 5, 11: 14, 12: 23; 5 is gone through, then 11.
            body(-7011, 16, 8, 23, 23, 23, 20, 17, 5, 14, 23);
        });
        Check.sentence("8 ahead of the 7s of places that are not gone through yet", () -> {
            bytes(-8004, 3, 4, 5, 20, 5, 5, 23);
            // 3: 20, 4: 17 9, 6: 20, 7: 16 12, 9: 14, 10: 16 12, 12: 23; 9 waits as 12 is come to.
            bytes(-8012, 3, 3, 12, 20, 17, 9, 20, 16, 12, 14, 16, 12, 23);
        });
        Check.sentence("Of 7 and 8 the one that comes first counts", () -> {
            bytes(-7003, 3, 4, 5, 14, 20, 23);
            bytes(-8005, 3, 5, 3, 20, 20, 14, 23);
            bytes(-7004, 3, 5, 3, 20, 5, 14, 23);
        });
    }
}
