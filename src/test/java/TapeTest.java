/** Promises 1 to 4: a new object, feed, end, poke. */
public final class TapeTest {
    public static void main(String[] args) {
        newObject();
        objectsApart();
        feedOrder();
        feedLimit();
        ends();
        pokes();
        Check.finish();
    }

    private static void newObject() {
        CodeYard yard = new CodeYard();
        for (int what = -1; what <= 8; what++) {
            Check.due("new: state(" + what + ")", yard.state(what), -1);
        }
        for (int k = -1; k <= 8; k++) {
            Check.due("new: size", yard.size(k), -1);
            Check.due("new: cell", yard.cell(k, 0), 0);
            Check.due("new: height", yard.height(k, 3), -1);
            Check.due("new: begin", yard.begin(k, 0), -1);
        }
        Check.due("new: go(0)", yard.go(0), -1);
        Check.due("new: go(1)", yard.go(1), -1);
        Check.due("new: stack(0)", yard.stack(0), 0);
        Check.due("new: local(0)", yard.local(0), 0);
        Check.due("new: out(0)", yard.out(0), -1);
        Check.due("new: poke(0, 0)", yard.poke(0, 0), -1);
        Check.due("new: end(1)", yard.end(1), -1);
        Check.due("new: end(0)", yard.end(0), 0);
        Check.due("new: load(0)", yard.load(0), -1000);
    }

    private static void objectsApart() {
        CodeYard one = new CodeYard();
        Check.load(one, 0, Check.code(0, 1, 2, 0, 23));
        one.begin(0, 0);
        one.go(2);
        CodeYard other = new CodeYard();
        Check.due("apart: size", other.size(0), -1);
        Check.due("apart: state", other.state(0), -1);
        Check.due("apart: cell", one.cell(0, 0), 1);
    }

    private static void feedOrder() {
        CodeYard yard = new CodeYard();
        Check.due("feed", yard.feed(0x01020304, 0xfffefdfc, 0x80007fff, 0, 0x090a0b0c), 20);
        int[] due = {1, 2, 3, 4, 255, 254, 253, 252, 128, 0, 127, 255, 0, 0, 0, 0, 9, 10, 11, 12};
        for (int i = 0; i < due.length; i++) {
            Check.due("order: poke(" + i + ")", yard.poke(i, 0), due[i]);
        }
        Check.due("feed behind", yard.feed(0x21000000, 0, 0, 0, 0x22), 40);
        Check.due("behind: first", yard.poke(20, 0), 0x21);
        Check.due("behind: last", yard.poke(39, 0), 0x22);
        Check.due("behind: none", yard.poke(40, 0), -1);
        Check.due("cut", yard.end(7), 7);
        Check.due("feed behind what is left", yard.feed(0x31000000, 0, 0, 0, 0), 27);
        Check.due("left: first", yard.poke(7, 0), 0x31);
        Check.due("left: what was cut is gone", yard.poke(26, 0), 0);
    }

    private static void feedLimit() {
        CodeYard yard = new CodeYard();
        for (int n = 20; n <= 300; n += 20) {
            Check.due("limit: feed", yard.feed(n, n, n, n, n), n);
        }
        Check.due("limit: full", yard.feed(1, 1, 1, 1, 1), -1);
        Check.due("limit: end(300)", yard.end(300), 300);
        Check.due("limit: end(281)", yard.end(281), 281);
        Check.due("limit: one too many", yard.feed(-1, -1, -1, -1, -1), -1);
        Check.due("limit: none came", yard.end(282), -1);
        Check.due("limit: byte 281", yard.poke(281, 0), -1);
        Check.due("limit: end(280)", yard.end(280), 280);
        Check.due("limit: just enough", yard.feed(-1, -1, -1, -1, -1), 300);
        Check.due("limit: byte 299", yard.poke(299, 0), 255);
        Check.due("limit: byte 300", yard.poke(300, 0), -1);
    }

    private static void ends() {
        CodeYard yard = new CodeYard();
        yard.feed(1, 2, 3, 4, 5);
        Check.due("end(21)", yard.end(21), -1);
        Check.due("end(-1)", yard.end(-1), -1);
        Check.due("end(least)", yard.end(Integer.MIN_VALUE), -1);
        Check.due("end(most)", yard.end(Integer.MAX_VALUE), -1);
        Check.due("end(20)", yard.end(20), 20);
        Check.due("end(4)", yard.end(4), 4);
        Check.due("what is left", yard.poke(3, 0), 1);
        Check.due("what is cut", yard.poke(4, 0), -1);
        Check.due("end(5)", yard.end(5), -1);
        Check.due("end(0)", yard.end(0), 0);
        Check.due("end(1)", yard.end(1), -1);
    }

    private static void pokes() {
        CodeYard yard = new CodeYard();
        yard.feed(0x01020304, 0, 0, 0, 0);
        Check.due("poke(1, 0x1ff)", yard.poke(1, 0x1ff), 2);
        Check.due("poke(1, -2)", yard.poke(1, -2), 255);
        Check.due("poke(1, 256)", yard.poke(1, 256), 254);
        Check.due("poke(1, 0)", yard.poke(1, 0), 0);
        Check.due("poke(-1, 0)", yard.poke(-1, 0), -1);
        Check.due("poke(20, 0)", yard.poke(20, 0), -1);
        Check.due("poke(least)", yard.poke(Integer.MIN_VALUE, 0), -1);
        Check.due("poke(most)", yard.poke(Integer.MAX_VALUE, 0), -1);
        Check.due("neighbours stay", yard.poke(0, 0), 1);
        Check.due("neighbours stay", yard.poke(2, 0), 3);
        Check.due("a poke brings no byte", yard.end(21), -1);
    }
}
