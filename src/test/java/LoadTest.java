/** Promises 5, 13, 14: load with every fault, height, size. */
public final class LoadTest {
    private static final int[] END = {23};

    public static void main(String[] args) {
        lengths();
        readingFaults();
        operandEdges();
        lastOnes();
        places();
        takesTooMany();
        leavesTooMany();
        twoHeights();
        orderOfSevenAndEight();
        whatIsNeverComeTo();
        refusals();
        replaced();
        heights();
        Check.finish();
    }

    private static void fault(String what, int want, int... bytes) {
        CodeYard yard = new CodeYard();
        Check.due(what, Check.load(yard, 5, bytes), want);
        Check.due(what + ": size", yard.size(5), want < 0 ? -1 : bytes.length);
        Check.due(what + ": the tape is empty", yard.end(1), -1);
    }

    private static void body(String what, int want, int... instructions) {
        fault(what, want, Check.code(instructions));
    }

    private static void lengths() {
        fault("no byte", -1000);
        fault("1 byte", -1001, 3);
        fault("3 bytes", -1003, 3, 3, 3);
        fault("4 bytes", 1, 3, 3, 3, 23);
        fault("256 bytes", 253, Check.code(Check.times(253, 23)));
        fault("257 bytes", -1257, Check.code(Check.times(254, 23)));
        fault("300 bytes", -1300, Check.times(300, 255));
        fault("place 255", 253, Check.join(new int[] {255, 255, 255}, Check.times(253, 23)));
    }

    private static void readingFaults() {
        body("above 27", -2003, 28);
        body("255", -2004, 23, 255);
        body("operand above 27 is none", 2, 0, 28, 23);
        for (int op : new int[] {0, 1, 2, 3, 4, 16, 17, 18, 27}) {
            body("no operand of " + op, -3004, 23, op);
        }
        for (int op : new int[] {22, 23, 24}) {
            body("no operand is due of " + op, op == 22 ? -7003 : 1, op);
        }
        body("2 ahead of 4", -2004, 23, 28, 1, 16, 23);
        body("4 ahead of 2", -4004, 23, 1, 16, 28, 23);
        body("4 ahead of 3", -4003, 27, 24, 23, 0);
        body("2 ahead of 3", -2003, 99, 23, 0);
        body("two 4s", -4003, 3, 8, 4, 8, 23);
        fault("4 ahead of 6", -4003, 0, 1, 2, 3, 8, 23);
        fault("3 ahead of 6", -3003, 0, 1, 2, 16);
        fault("2 ahead of 5 and 6", -2003, 0, 1, 2, 28, 5);
    }

    private static void operandEdges() {
        body("cell 15", 3, 1, 15, 2, 15, 23);
        body("cell 16 read", -4003, 1, 16, 23);
        body("cell 16 written", -4005, 0, 0, 2, 16, 23);
        body("cell 255", -4003, 1, 255, 23);
        body("local 7", 3, 3, 7, 4, 7, 23);
        body("local 8 read", -4003, 3, 8, 23);
        body("local 8 written", -4005, 0, 0, 4, 8, 23);
        body("call 23", 2, 27, 23, 22);
        body("call 24", -4003, 27, 24, 22);
        body("any int", 4, 0, 255, 0, 128, 14, 22);
    }

    private static void lastOnes() {
        for (int op = 0; op <= 27; op++) {
            boolean operand = op <= 4 || (op >= 16 && op <= 18) || op == 27;
            int[] last = operand ? new int[] {op, 3} : new int[] {op};
            int[] body = Check.join(new int[] {0, 1, 0, 1, 14, 16, 3}, last);
            boolean ends = op == 16 || (op >= 22 && op <= 24);
            CodeYard yard = new CodeYard();
            int answer = Check.load(yard, 0, Check.code(body));
            Check.that("last is " + op + ": " + answer, ends == (answer != -5010));
        }
        body("5 of the last one alone", -5006, 0, 1, 23, 13);
        fault("5 ahead of 6", -5003, 0, 1, 2, 20);
        body("5 ahead of 7", -5004, 5, 5);
        body("last with operand", -5004, 23, 17, 3);
    }

    private static void places() {
        fault("beginning 0", -6000, 4, 3, 3, 23);
        fault("beginning 1", -6001, 3, 0, 3, 23);
        fault("beginning 2", -6002, 3, 3, 255, 23);
        fault("a beginning in the beginnings", -6001, 3, 2, 3, 23);
        fault("a beginning at an operand", -6002, 3, 3, 4, 0, 23, 22);
        fault("two of them", -6000, 9, 9, 3, 23);
        body("16 outside", -6004, 16, 5);
        body("16 into the beginnings", -6004, 16, 0);
        body("17 at an operand", -6006, 0, 1, 17, 4, 23);
        body("18 at an operand", -6008, 20, 20, 20, 14, 18, 8, 23);
        body("never come to, but 6", -6005, 23, 16, 1);
        fault("a beginning ahead of an operand", -6002, 3, 3, 99, 16, 99);
        body("6 ahead of 7", -6005, 5, 16, 99);
        body("n of 0 and 27 is no place", 3, 0, 99, 27, 1, 22);
        body("an operand 16 is no instruction", 3, 0, 16, 0, 5, 23);
    }

    private static void takesTooMany() {
        int[] takes = {0, 0, 1, 0, 1, 2, 2, 2, 2, 2, 2, 2, 2, 1, 1, 2, 0, 1, 2, 1, 0, 1, 1, 0, 0, 2, 2, 0};
        for (int op = 0; op <= 27; op++) {
            for (int there = 0; there <= 2; there++) {
                int place = 3 + there;
                boolean jump = op >= 16 && op <= 18;
                boolean operand = op <= 4 || jump || op == 27;
                int target = place + 2;
                int[] it = operand ? new int[] {op, jump ? target : 1} : new int[] {op};
                int[] all = Check.code(Check.join(Check.times(there, 20), it, END));
                fault(op + " with " + there, there < takes[op] ? -7000 - place : there + 2, all);
            }
        }
    }

    private static void leavesTooMany() {
        int[] adds = {1, 1, -1, 1, -1, -1, -1, -1, -1, -1, -1, -1, -1, 1, -1, 0, 0, -1, -2, 0, 1, -1, -1, 0, 0,
            -1, -1, 1};
        for (int op = 0; op <= 27; op++) {
            for (int there = 7; there <= 8; there++) {
                int place = 3 + there;
                boolean jump = op >= 16 && op <= 18;
                boolean operand = op <= 4 || jump || op == 27;
                int[] it = operand ? new int[] {op, jump ? place + 2 : 1} : new int[] {op};
                int[] all = Check.code(Check.join(Check.times(there, 20), it, END));
                CodeYard yard = new CodeYard();
                boolean tooMany = there + adds[op] > 8;
                Check.due(op + " onto " + there, Check.load(yard, 0, all), tooMany ? -7000 - place : there + 2);
                boolean goesOn = !tooMany && (op < 22 || op > 24);
                Check.due(op + " leaves", yard.height(0, 3 + all.length - 4), goesOn ? there + adds[op] : -1);
            }
        }
        body("nine", -7011, 20, 20, 20, 20, 20, 20, 20, 20, 20, 22);
    }

    private static void twoHeights() {
        body("a growing ring", -8003, 20, 16, 3);
        body("a falling ring", -7003, 14, 16, 3);
        body("a ring", 3, 20, 14, 16, 3);
        body("itself", 1, 16, 3);
        body("17 to itself", -8004, 20, 17, 4, 23);
        body("17 behind itself", 3, 20, 17, 6, 23);
        // 3: 20, 4: 17 8, 6: 20, 7: 20, 8: 23
        body("two ways", -8008, 20, 17, 8, 20, 20, 23);
        fault("two beginnings", -8004, 3, 4, 3, 20, 23);
        fault("the same beginning thrice", 2, 3, 3, 3, 20, 22);
        fault("beginnings in another order", -8004, 5, 4, 3, 20, 14, 20, 22);
        fault("one beginning falls into another", 4, 5, 3, 5, 20, 14, 20, 22);
    }

    private static void orderOfSevenAndEight() {
        // The 7 at place 3 is gone through before place 4 is come to again.
        fault("7 first", -7003, 3, 4, 5, 14, 20, 23);
        // 3 brings one onto 4, which is a beginning: 8 of 4 comes ahead of 7 of 4 and of 5.
        fault("8 first", -8004, 3, 4, 5, 20, 5, 5, 23);
        // Place 6 (7) is less than place 8, where 8 would be told by place 7.
        fault("lesser place first", -7006, 3, 6, 8, 16, 7, 23, 14, 20, 23);
        // A jump back to a lesser place is gone through before a greater one that waits.
        // 3: 16 8, 5: 14, 6: 16 12, 8: 0 1, 10: 17 5, 12: 14, 13: 23
        body("back to the lesser place", -7005, 16, 8, 14, 16, 12, 0, 1, 17, 5, 14, 23);
        // 3: 16 7, 5: 20, 6: 23, 7: 20, 8: 20, 9: 18 5, 11: 14, 12: 23
        body("the lesser one is gone through, then 7", -7011, 16, 7, 20, 23, 20, 20, 18, 5, 14, 23);
        // Both ways of 17 at 8 meet another height: the lesser place counts, here the target ..
        // 3: 16 6, 5: 23, 6: 20, 7: 20, 8: 17 5, 10: 23, with beginnings 3, 5, 10
        fault("both ways, target less", -8005, 3, 5, 10, 16, 6, 23, 20, 20, 17, 5, 23);
        // .. and here the one behind: 3: 20, 4: 20, 5: 17 8, 7: 23, 8: 23
        fault("both ways, target greater", -8007, 3, 7, 8, 20, 20, 17, 8, 23, 23);
        // 18 likewise, with one left: 3: 20 20 20, 6: 18 9, 8: 23, 9: 23
        fault("both ways of 18", -8008, 3, 8, 9, 20, 20, 20, 18, 9, 23, 23);
        // The 8 at the greater place 12 comes while the 7 at 9 waits: 3: 20, 4: 17 9, 6: 20, 7: 16 12,
        // 9: 14, 10: 16 12, 12: 23, with beginning 12
        fault("8 ahead of a 7 that waits", -8012, 3, 3, 12, 20, 17, 9, 20, 16, 12, 14, 16, 12, 23);
    }

    private static void whatIsNeverComeTo() {
        body("takes, but never come to", 3, 23, 5, 23);
        body("ring of two heights, never come to", 4, 23, 20, 16, 4, 23);
        CodeYard yard = new CodeYard();
        Check.due("behind 16", Check.load(yard, 0, Check.code(16, 6, 20, 23)), 3);
        Check.due("behind 16: height", yard.height(0, 5), -1);
        Check.due("at n: height", yard.height(0, 6), 0);
    }

    private static void refusals() {
        CodeYard yard = new CodeYard();
        Check.tape(yard, Check.code(0, 7, 2, 1, 20, 22));
        for (int k : new int[] {-1, 8, Integer.MIN_VALUE, Integer.MAX_VALUE}) {
            Check.due("load(" + k + ")", yard.load(k), -1);
        }
        Check.due("the tape stays", yard.end(9), 9);
        Check.due("load(7)", yard.load(7), 4);
        Check.due("size(7)", yard.size(7), 9);
        Check.tape(yard, 1, 2, 3);
        yard.begin(7, 0);
        Check.tape(yard, Check.code(23));
        Check.due("held: load", yard.load(7), -1);
        Check.due("held: load of another", yard.load(0), -1);
        Check.due("held: the tape stays", yard.end(4), 4);
        Check.due("held: it goes on", yard.go(9), 0);
        Check.due("held: with its code", yard.state(1), 3);
        Check.due("ended: load", yard.load(0), 1);
        Check.load(yard, 1, Check.code(24));
        yard.begin(1, 0);
        Check.due("thrown", yard.go(1), 2);
        Check.due("thrown: load", Check.load(yard, 1, Check.code(23)), 1);
        for (int k : new int[] {-1, 8, Integer.MIN_VALUE, Integer.MAX_VALUE, 2}) {
            Check.due("size(" + k + ")", yard.size(k), -1);
        }
    }

    private static void replaced() {
        CodeYard yard = new CodeYard();
        Check.load(yard, 3, Check.code(0, 9, 2, 4, 23));
        Check.load(yard, 4, Check.code(0, 8, 2, 4, 23));
        yard.begin(3, 0);
        yard.go(3);
        yard.begin(4, 0);
        yard.go(3);
        Check.due("not sound", Check.load(yard, 3, Check.code(5)), -5003);
        Check.due("it stays: size", yard.size(3), 8);
        Check.due("it stays: cell", yard.cell(3, 4), 9);
        Check.due("it stays: height", yard.height(3, 5), 1);
        Check.due("in place of it", Check.load(yard, 3, Check.code(1, 4, 22)), 2);
        Check.due("new size", yard.size(3), 6);
        Check.due("new cells", yard.cell(3, 4), 0);
        Check.due("new height", yard.height(3, 5), 1);
        Check.due("nothing of the old one", yard.height(3, 7), -1);
        Check.due("the other one's cell stays", yard.cell(4, 4), 8);
        Check.due("the latest run stays", yard.state(3), 3);
        yard.begin(3, 0);
        Check.due("the new one runs", yard.go(5), 0);
        Check.due("the new one's answer", yard.state(1), 0);
    }

    private static void heights() {
        CodeYard yard = new CodeYard();
        int[] bytes = {3, 5, 3, 20, 22, 0, 1, 20, 17, 12, 22, 24, 22, 23};
        Check.due("heights: load", Check.load(yard, 6, bytes), 9);
        int[] due = {-1, -1, -1, 0, 1, 0, -1, 1, 2, -1, 1, -1, 1, -1};
        for (int p = 0; p < due.length; p++) {
            Check.due("height(6, " + p + ")", yard.height(6, p), due[p]);
        }
        for (int p : new int[] {-1, 14, 255, 256, Integer.MIN_VALUE, Integer.MAX_VALUE}) {
            Check.due("height(6, " + p + ")", yard.height(6, p), -1);
        }
        for (int k : new int[] {-1, 5, 8, Integer.MIN_VALUE, Integer.MAX_VALUE}) {
            Check.due("height(" + k + ", 3)", yard.height(k, 3), -1);
        }
        Check.load(yard, 0, Check.code(20, 20, 20, 20, 20, 20, 20, 20, 22));
        Check.due("eight", yard.height(0, 11), 8);
    }
}
