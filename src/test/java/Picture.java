/** All that can be seen of a yard, so that a refused call can be shown to have changed nothing. */
final class Picture {
    private static final int TAPE_LOOKED_AT = 8;

    private Picture() {
    }

    /** Some 160 calls: two pictures of one yard fit into its 512. */
    static String of(CodeYard yard) {
        StringBuilder text = new StringBuilder();
        row(text, "state", 0, 8, yard::state);
        row(text, "stack", 0, 8, yard::stack);
        row(text, "local", 0, 8, yard::local);
        row(text, "out", 0, 4, yard::out);
        row(text, "size", 0, 8, yard::size);
        for (int code : new int[] {0, 1, 7}) {
            row(text, "cells of " + code, 0, 16, i -> yard.cell(code, i));
            row(text, "heights of " + code, 3, 14, p -> yard.height(code, p));
        }
        row(text, "tape", 0, TAPE_LOOKED_AT, i -> tapeByte(yard, i));
        return text.toString();
    }

    /** A byte can be seen only as another takes its place: it is put back then. */
    private static int tapeByte(CodeYard yard, int i) {
        int there = yard.poke(i, 0);
        yard.poke(i, there);
        return there;
    }

    private static void row(StringBuilder text, String name, int from, int to, java.util.function.IntUnaryOperator of) {
        text.append(name);
        for (int i = from; i < to; i++) {
            text.append(' ').append(of.applyAsInt(i));
        }
        text.append('\n');
    }

    /** The call is answered with NONE, and all is as before. */
    static void refused(String call, CodeYard yard, java.util.function.IntSupplier made) {
        String before = of(yard);
        Check.due(call, made.getAsInt(), -1);
        String after = of(yard);
        Check.that(call + " changes nothing:\n" + before + "became\n" + after, before.equals(after));
    }
}
