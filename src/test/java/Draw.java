import java.util.ArrayList;
import java.util.List;
import java.util.Random;
import java.util.TreeMap;

/** Draws codes, most of them sound, with rings, calls, cells and ways that part and meet. */
final class Draw {
    private static final int[] ENDS = {22, 23, 24, 16};
    private final Random random;
    private final List<Integer> bytes = new ArrayList<>();
    /** The place of each instruction with the height that it was drawn for. */
    private final TreeMap<Integer, Integer> starts = new TreeMap<>();
    /** Operands that shall become a later place: their own place, and the height there. */
    private final List<int[]> ahead = new ArrayList<>();
    private int height;

    private Draw(Random random) {
        this.random = random;
    }

    static int[] code(Random random) {
        int[] drawn = new Draw(random).drawn();
        int spoilt = random.nextInt(4) == 0 ? 1 + random.nextInt(2) : 0;
        for (int i = 0; i < spoilt; i++) {
            int p = random.nextInt(drawn.length);
            drawn[p] = random.nextInt(3) == 0 ? random.nextInt(256) : random.nextInt(29);
        }
        return random.nextInt(12) == 0 ? java.util.Arrays.copyOf(drawn, random.nextInt(drawn.length + 1)) : drawn;
    }

    private int[] drawn() {
        bytes.addAll(List.of(3, 3, 3));
        int many = 1 + random.nextInt(random.nextInt(8) == 0 ? 110 : 30);
        for (int i = 0; i < many && bytes.size() < 250; i++) {
            one(random.nextInt(28));
        }
        last();
        for (int[] operand : ahead) {
            bytes.set(operand[0], placeOf(operand[1], operand[0]));
        }
        for (int b = 0; b < 3; b++) {
            bytes.set(b, placeOf(0, random.nextInt(bytes.size())));
        }
        return bytes.stream().mapToInt(Integer::intValue).toArray();
    }

    private void one(int op) {
        int[] spec = Model.OPS[op];
        int then = height - spec[0] + spec[1];
        boolean rare = op >= 22 && op <= 24 || op == 16 || op == 27;
        boolean unfit = spec[0] > height || then > 8;
        if (unfit && random.nextInt(150) != 0 || rare && random.nextInt(3) != 0) {
            return;
        }
        starts.put(bytes.size(), height);
        bytes.add(op);
        height = Math.max(0, Math.min(8, then));
        if (spec[2] >= 0) {
            bytes.add(operand(op, spec[2]));
        }
        if (op == 16 || op >= 22 && op <= 24) {
            height = ahead.isEmpty() ? 0 : ahead.get(random.nextInt(ahead.size()))[1];
        }
    }

    private int operand(int op, int most) {
        if (op < 16 || op > 18) {
            return random.nextInt(op == 0 && random.nextInt(3) > 0 ? 8 : random.nextInt(60) == 0 ? 256 : most + 1);
        }
        if (random.nextInt(3) > 0) {
            ahead.add(new int[] {bytes.size(), height});
            return 0;
        }
        return placeOf(height, random.nextInt(bytes.size()));
    }

    private void last() {
        starts.put(bytes.size(), height);
        int op = random.nextInt(60) == 0 ? 20 : ENDS[random.nextInt(4)];
        if (op == 22 && height == 0) {
            op = 23;
        }
        bytes.add(op);
        if (op == 16) {
            bytes.add(placeOf(height, random.nextInt(bytes.size())));
        }
    }

    /** A place with that height, from some place on if there is one there. */
    private int placeOf(int wanted, int from) {
        for (int p : starts.tailMap(from).keySet()) {
            if (starts.get(p) == wanted && random.nextInt(3) > 0) {
                return p;
            }
        }
        for (int p : starts.keySet()) {
            if (starts.get(p) == wanted) {
                return p;
            }
        }
        return 3;
    }
}
