import java.util.ArrayList;
import java.util.List;
import java.util.TreeMap;
import java.util.TreeSet;

/**
 * A second yard, slow and built otherwise: a held run is no state of its own, but is done anew from
 * its beginning, by a recursion, each time it goes on.
 */
final class Model {
    /** Takes, gives, greatest operand (-1: no operand), by number. */
    private static final String TABLE =
        "0 1 255;0 1 15;1 0 15;0 1 7;1 0 7;2 1 -1;2 1 -1;2 1 -1;2 1 -1;2 1 -1;2 1 -1;2 1 -1;2 1 -1;1 2 -1;"
        + "1 0 -1;2 2 -1;0 0 255;1 0 255;2 0 255;1 1 -1;0 1 -1;1 0 -1;1 0 -1;0 0 -1;0 0 -1;2 1 -1;2 1 -1;0 1 23";
    static final int[][] OPS = table();

    private static final class Stop extends RuntimeException {
        private static final long serialVersionUID = 1;
        final int reason;

        /** Reason 0: it is held here. */
        Stop(int reason) {
            super(null, null, false, false);
            this.reason = reason;
        }
    }

    final List<Integer> tape = new ArrayList<>();
    private final int[][] codes = new int[8][];
    private final List<TreeMap<Integer, Integer>> heights = new ArrayList<>();
    private int[][] cells = new int[8][16];

    private boolean begun;
    private int[][] cellsBefore;
    private int[] input;
    private int runCode;
    private int runBeginning;
    private int allowed;

    private int status;
    private int result;
    private int reason;
    private int done;
    private final List<Integer> out = new ArrayList<>();
    private int atLevel;
    private int atCode;
    private int atPlace;
    private int[] atStack;
    private int[] atLocals;

    Model() {
        for (int k = 0; k < 8; k++) {
            heights.add(new TreeMap<>());
        }
    }

    private static int[][] table() {
        String[] rows = TABLE.split(";");
        int[][] ops = new int[rows.length][3];
        for (int i = 0; i < rows.length; i++) {
            String[] parts = rows[i].split(" ");
            for (int j = 0; j < 3; j++) {
                ops[i][j] = Integer.parseInt(parts[j]);
            }
        }
        return ops;
    }

    int feed(int... ints) {
        if (tape.size() > 280) {
            return -1;
        }
        for (int v : ints) {
            tape.add(v >>> 24);
            tape.add(v >>> 16 & 255);
            tape.add(v >>> 8 & 255);
            tape.add(v & 255);
        }
        return tape.size();
    }

    int end(int n) {
        if (n < 0 || n > tape.size()) {
            return -1;
        }
        tape.subList(n, tape.size()).clear();
        return n;
    }

    int poke(int i, int v) {
        return i < 0 || i >= tape.size() ? -1 : tape.set(i, v & 255);
    }

    private int[] emptiedTape() {
        int[] bytes = tape.stream().mapToInt(Integer::intValue).toArray();
        tape.clear();
        return bytes;
    }

    private boolean held() {
        return begun && status == 1;
    }

    int load(int k) {
        if (k < 0 || k > 7 || held()) {
            return -1;
        }
        int[] bytes = emptiedTape();
        TreeMap<Integer, Integer> found = new TreeMap<>();
        int answer = judge(bytes, found);
        if (answer >= 0) {
            codes[k] = bytes;
            heights.set(k, found);
            cells[k] = new int[16];
        }
        return answer;
    }

    private static int judge(int[] bytes, TreeMap<Integer, Integer> found) {
        if (bytes.length < 4 || bytes.length > 256) {
            return -1000 - bytes.length;
        }
        TreeSet<Integer> starts = new TreeSet<>();
        int at = 3;
        while (at < bytes.length) {
            if (bytes[at] > 27) {
                return -2000 - at;
            }
            starts.add(at);
            int most = OPS[bytes[at]][2];
            if (most >= 0 && at + 1 == bytes.length) {
                return -3000 - at;
            }
            if (most >= 0 && bytes[at + 1] > most) {
                return -4000 - at;
            }
            at += most >= 0 ? 2 : 1;
        }
        int last = bytes[starts.last()];
        if (last != 16 && last != 22 && last != 23 && last != 24) {
            return -5000 - starts.last();
        }
        TreeSet<Integer> telling = new TreeSet<>(List.of(0, 1, 2));
        for (int p : starts) {
            if (bytes[p] >= 16 && bytes[p] <= 18) {
                telling.add(p + 1);
            }
        }
        for (int p : telling) {
            if (!starts.contains(bytes[p])) {
                return -6000 - p;
            }
        }
        int fault = goThrough(bytes, found);
        return fault != 0 ? fault : starts.size();
    }

    private static int goThrough(int[] bytes, TreeMap<Integer, Integer> found) {
        TreeSet<Integer> open = new TreeSet<>();
        for (int b = 0; b < 3; b++) {
            found.put(bytes[b], 0);
            open.add(bytes[b]);
        }
        while (!open.isEmpty()) {
            int p = open.pollFirst();
            int op = bytes[p];
            int there = found.get(p);
            int then = there - OPS[op][0] + OPS[op][1];
            if (there < OPS[op][0] || then > 8) {
                return -7000 - p;
            }
            TreeSet<Integer> next = new TreeSet<>();
            if (op != 16 && op != 22 && op != 23 && op != 24) {
                next.add(p + (OPS[op][2] >= 0 ? 2 : 1));
            }
            if (op >= 16 && op <= 18) {
                next.add(bytes[p + 1]);
            }
            for (int q : next) {
                Integer before = found.putIfAbsent(q, then);
                if (before == null) {
                    open.add(q);
                } else if (before != then) {
                    return -8000 - q;
                }
            }
        }
        return 0;
    }

    int begin(int k, int b) {
        if (size(k) < 0 || b < 0 || b > 2) {
            return -1;
        }
        if (held()) {
            cells = copy(cellsBefore);
        }
        begun = true;
        cellsBefore = copy(cells);
        input = emptiedTape();
        runCode = k;
        runBeginning = b;
        allowed = 0;
        replay();
        return 1;
    }

    int go(int n) {
        if (n < 0 || n > 2001 || !held()) {
            return -1;
        }
        allowed += n;
        replay();
        return status;
    }

    private static int[][] copy(int[][] rows) {
        int[][] all = new int[rows.length][];
        for (int i = 0; i < rows.length; i++) {
            all[i] = rows[i].clone();
        }
        return all;
    }

    private void replay() {
        cells = copy(cellsBefore);
        out.clear();
        done = 0;
        result = 0;
        reason = 0;
        atLevel = 0;
        atCode = -1;
        atPlace = -1;
        atStack = new int[0];
        atLocals = new int[0];
        try {
            result = perform(runCode, runBeginning, 1);
            status = 0;
        } catch (Stop stop) {
            status = stop.reason == 0 ? 1 : 2;
            reason = stop.reason;
            if (status == 2) {
                cells = copy(cellsBefore);
            }
        }
    }

    private void hold(int level, int k, int place, List<Integer> stack, int[] locals) {
        atLevel = level;
        atCode = k;
        atPlace = place;
        atStack = stack.stream().mapToInt(Integer::intValue).toArray();
        atLocals = locals;
        throw new Stop(0);
    }

    private static int pop(List<Integer> stack) {
        return stack.remove(stack.size() - 1);
    }

    private int perform(int k, int beginning, int level) {
        List<Integer> s = new ArrayList<>();
        int[] locals = new int[8];
        int[] code = codes[k];
        int at = code[beginning];
        while (true) {
            if (done == allowed) {
                hold(level, k, at, s, locals);
            }
            if (done == 2000) {
                throw new Stop(6);
            }
            done++;
            int op = code[at];
            int n = OPS[op][2] >= 0 ? code[at + 1] : 0;
            int next = at + (OPS[op][2] >= 0 ? 2 : 1);
            int b = OPS[op][0] == 2 ? pop(s) : 0;
            int a = OPS[op][0] >= 1 ? pop(s) : 0;
            switch (op) {
                case 0 -> s.add(n > 127 ? n - 256 : n);
                case 1 -> s.add(cells[k][n]);
                case 2 -> cells[k][n] = a;
                case 3 -> s.add(locals[n]);
                case 4 -> locals[n] = a;
                case 13 -> s.addAll(List.of(a, a));
                case 14 -> { }
                case 15 -> s.addAll(List.of(b, a));
                case 16 -> next = n;
                case 17 -> next = a == 0 ? n : next;
                case 18 -> next = a < b ? n : next;
                case 21 -> putOut(a);
                case 22, 23 -> {
                    return a;
                }
                case 24 -> throw new Stop(1);
                case 27 -> s.add(call(n, level));
                default -> s.add(value(op, a, b));
            }
            at = next;
        }
    }

    private int call(int n, int level) {
        if (codes[n & 7] == null) {
            throw new Stop(4);
        }
        if (level == 8) {
            throw new Stop(5);
        }
        return perform(n & 7, n >> 3, level + 1);
    }

    private void putOut(int a) {
        if (out.size() == 64) {
            throw new Stop(3);
        }
        out.add(a & 255);
    }

    private int value(int op, int a, int b) {
        switch (op) {
            case 5: return (int) ((long) a + b);
            case 6: return (int) ((long) a - b);
            case 7: return (int) ((long) a * b);
            case 8: return a & b;
            case 9: return a | b;
            case 10: return (a | b) - (a & b);
            case 11: return (int) ((long) a << (b & 31));
            case 12: return (int) ((long) a >> (b & 31));
            case 19:
                if (a < 0 || a >= input.length) {
                    throw new Stop(2);
                }
                return input[a];
            case 20: return input.length;
            default:
                if (b == 0) {
                    throw new Stop(1);
                }
                return (int) (op == 25 ? (long) a / b : (long) a % b);
        }
    }

    int state(int what) {
        if (!begun || what < 0 || what > 7) {
            return -1;
        }
        return new int[] {status, result, reason, done, atLevel, atCode, atPlace, out.size()}[what];
    }

    int stack(int i) {
        return atStack == null || i < 0 || i >= atStack.length ? 0 : atStack[i];
    }

    int local(int i) {
        return atLocals == null || i < 0 || i >= atLocals.length ? 0 : atLocals[i];
    }

    int cell(int k, int i) {
        return size(k) < 0 || i < 0 || i > 15 ? 0 : cells[k][i];
    }

    int out(int i) {
        return i < 0 || i >= out.size() ? -1 : out.get(i);
    }

    int height(int k, int p) {
        return size(k) < 0 ? -1 : heights.get(k).getOrDefault(p, -1);
    }

    int size(int k) {
        return k < 0 || k > 7 || codes[k] == null ? -1 : codes[k].length;
    }
}
