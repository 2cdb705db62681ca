/** What the tests of the project share: counting wrong answers, and bringing bytes onto a tape. */
final class Check {
    private static int looked = 0;
    private static int wrong = 0;
    private static String sentence = "";

    private Check() {
    }

    static void due(String call, long got, long want) {
        looked++;
        if (got != want) {
            wrong++;
            System.out.println(sentence + call + " answered " + got + ", due is " + want);
        }
    }

    static void that(String what, boolean holds) {
        looked++;
        if (!holds) {
            wrong++;
            System.out.println(sentence + "not so: " + what);
        }
    }

    /** A test of one sentence of the document; what is wrong in it is told with these words. */
    static void sentence(String words, Runnable test) {
        int before = looked;
        sentence = "\"" + words + "\": ";
        test.run();
        that("the sentence is looked at", looked > before);
        sentence = "";
    }

    /** Ends the test's program, with exit code 1 if an answer was wrong. */
    static void finish() {
        System.out.println(wrong == 0 ? "all answers are as due" : wrong + " answers are not as due");
        if (wrong != 0) {
            System.exit(1);
        }
    }

    /** The tape, whatever it has had, has just these bytes then. */
    static void tape(CodeYard yard, int... bytes) {
        yard.end(0);
        for (int from = 0; from < bytes.length; from += 20) {
            int[] ints = new int[5];
            for (int i = 0; i < 20 && from + i < bytes.length; i++) {
                ints[i / 4] |= (bytes[from + i] & 255) << (24 - 8 * (i % 4));
            }
            due("feed", yard.feed(ints[0], ints[1], ints[2], ints[3], ints[4]), from + 20);
        }
        due("end", yard.end(bytes.length), bytes.length);
    }

    static int load(CodeYard yard, int k, int... bytes) {
        tape(yard, bytes);
        return yard.load(k);
    }

    /** A new yard with these instructions as code 0. */
    static CodeYard yard(int... instructions) {
        CodeYard yard = new CodeYard();
        int loaded = load(yard, 0, code(instructions));
        that("sound: " + loaded, loaded > 0);
        return yard;
    }

    /** What state tells, from 0 on. */
    static void states(String what, CodeYard yard, int... want) {
        for (int i = 0; i < want.length; i++) {
            due(what + ": state(" + i + ")", yard.state(i), want[i]);
        }
    }

    /** Instructions that bring any int onto the stack, made of its bytes with their signs. */
    static int[] number(int v) {
        int b0 = (byte) v;
        int v1 = (v ^ b0) >> 8;
        int b1 = (byte) v1;
        int v2 = (v1 ^ b1) >> 8;
        int b2 = (byte) v2;
        int b3 = (v2 ^ b2) >> 8;
        return new int[] {0, b3, 0, 8, 11, 0, b2, 10, 0, 8, 11, 0, b1, 10, 0, 8, 11, 0, b0, 10};
    }

    /** Bytes of a code whose three beginnings are all at place 3. */
    static int[] code(int... instructions) {
        int[] bytes = new int[instructions.length + 3];
        bytes[0] = 3;
        bytes[1] = 3;
        bytes[2] = 3;
        System.arraycopy(instructions, 0, bytes, 3, instructions.length);
        return bytes;
    }

    /** A row of n times the same bytes. */
    static int[] times(int n, int... bytes) {
        int[] all = new int[n * bytes.length];
        for (int i = 0; i < all.length; i++) {
            all[i] = bytes[i % bytes.length];
        }
        return all;
    }

    static int[] join(int[]... rows) {
        int length = 0;
        for (int[] row : rows) {
            length += row.length;
        }
        int[] all = new int[length];
        int at = 0;
        for (int[] row : rows) {
            System.arraycopy(row, 0, all, at, row.length);
            at += row.length;
        }
        return all;
    }
}
