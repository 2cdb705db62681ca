/** The edges that the fourteen promises name: the least and the greatest of each, and what is refused. */
public final class PromiseEdgeTest {
    private static final int LEAST = Integer.MIN_VALUE;
    private static final int MOST = Integer.MAX_VALUE;

    public static void main(String[] args) {
        newObject();
        feed();
        end();
        poke();
        load();
        loadRefused();
        begin();
        beginRefused();
        go();
        state();
        stackAndLocal();
        cell();
        out();
        height();
        size();
        Check.finish();
    }

    /** Something everywhere: codes 0, 1, 7, a cell, a run of code 0 that is held in code 1, a tape. */
    private static CodeYard busy() {
        CodeYard yard = Check.yard(0, 30, 2, 3, 0, 31, 21, 0, 32, 27, 9, 22);
        Check.load(yard, 1, 6, 3, 3, 0, 33, 22, 0, 34, 22);
        Check.load(yard, 7, Check.code(0, 35, 2, 0, 24));
        Check.tape(yard, 36, 37);
        yard.begin(0, 0);
        Check.due("busy", yard.go(7), 1);
        Check.tape(yard, 38, 39, 40);
        return yard;
    }

    /** The same, but the run has ended. */
    private static CodeYard ended() {
        CodeYard yard = busy();
        Check.due("ended", yard.go(9), 0);
        return yard;
    }

    /** The same, but a run of code 7 has thrown. */
    private static CodeYard thrown() {
        CodeYard yard = ended();
        yard.begin(7, 0);
        Check.due("thrown", yard.go(9), 2);
        Check.tape(yard, 38, 39, 40);
        return yard;
    }

    private static void newObject() {
        Check.sentence("CodeYard(): the state that the terms give", () -> {
            CodeYard yard = new CodeYard();
            Check.due("no byte", yard.poke(0, 1), -1);
            Check.due("no byte", yard.end(1), -1);
            Check.due("go(0)", yard.go(0), -1);
            for (int i = 0; i < 8; i++) {
                Check.due("size", yard.size(i), -1);
                Check.due("begin", yard.begin(i, 0), -1);
                Check.due("state", yard.state(i), -1);
                Check.due("stack", yard.stack(i), 0);
                Check.due("local", yard.local(i), 0);
                Check.due("cell", yard.cell(i, i), 0);
                Check.due("height", yard.height(i, 3), -1);
                Check.due("out", yard.out(i), -1);
            }
            Check.due("an empty TAPE is no CODE", yard.load(0), -1000);
            Check.due("the first feed", yard.feed(0, 0, 0, 0, 0), 20);
        });
        Check.sentence("objects have nothing of one another", () -> {
            String before = Picture.of(new CodeYard());
            busy();
            Check.that("a new one is as ever", before.equals(Picture.of(new CodeYard())));
        });
    }

    private static void feed() {
        Check.sentence("Twenty bytes come behind those on THE TAPE, the highest of each int first", () -> {
            CodeYard yard = new CodeYard();
            Check.tape(yard, 91, 92);
            Check.due("feed", yard.feed(0x01020304, 0x05060708, 0x090a0b0c, 0x0d0e0f10, 0xf1f2f3f4), 22);
            int[] due = {91, 92, 1, 2, 3, 4, 5, 6, 7, 8, 9, 10, 11, 12, 13, 14, 15, 16, 0xf1, 0xf2, 0xf3, 0xf4};
            for (int i = 0; i < due.length; i++) {
                Check.due("byte " + i, yard.poke(i, 0), due[i]);
            }
            Check.due("no more", yard.poke(22, 0), -1);
        });
        Check.sentence("how many there are; NONE, and none come, if there would be more than 300", () -> {
            for (int there = 279; there <= 300; there++) {
                CodeYard yard = new CodeYard();
                Check.tape(yard, Check.times(there, 7));
                boolean fits = there <= 280;
                Check.due("feed onto " + there, yard.feed(-1, -1, -1, -1, -1), fits ? there + 20 : -1);
                Check.due("the first that came", yard.poke(there, 0), fits ? 255 : -1);
                Check.due("the last that was", yard.poke(there - 1, 0), 7);
                Check.due("how many", yard.end(there + 1), fits ? there + 1 : -1);
            }
            CodeYard yard = busy();
            while (yard.feed(1, 1, 1, 1, 1) < 283) {
                Check.that("there is room", yard.end(283) == -1);
            }
            Picture.refused("feed", yard, () -> yard.feed(0, 0, 0, 0, 0));
        });
    }

    private static void end() {
        Check.sentence("THE TAPE has its first n bytes alone: n", () -> {
            CodeYard yard = new CodeYard();
            yard.feed(0x01020304, 0, 0, 0, 0x05);
            Check.due("end(20)", yard.end(20), 20);
            Check.due("all stay", yard.poke(19, 5), 5);
            Check.due("end(19)", yard.end(19), 19);
            Check.due("the last is gone", yard.poke(19, 0), -1);
            Check.due("end(1)", yard.end(1), 1);
            Check.due("the first stays", yard.poke(0, 1), 1);
            Check.due("the second is gone", yard.poke(1, 0), -1);
            Check.due("end(0)", yard.end(0), 0);
            Check.due("none is there", yard.poke(0, 0), -1);
            Check.due("end(0) again", yard.end(0), 0);
            Check.due("feed", yard.feed(0, 0, 0, 0, 0), 20);
        });
        Check.sentence("NONE if there are not so many, or n is below 0", () -> {
            for (int n : new int[] {4, 5, 300, 301, MOST, -1, -2, -300, LEAST}) {
                CodeYard yard = busy();
                Picture.refused("end(" + n + ")", yard, () -> yard.end(n));
            }
            CodeYard full = new CodeYard();
            Check.tape(full, Check.times(300, 1));
            Check.due("end(301)", full.end(301), -1);
            Check.due("end(300)", full.end(300), 300);
            Check.due("empty: end(1)", new CodeYard().end(1), -1);
        });
    }

    private static void poke() {
        Check.sentence("Byte i of THE TAPE becomes v's lowest eight bits: what it was", () -> {
            CodeYard yard = new CodeYard();
            Check.tape(yard, Check.times(300, 9));
            int[] values = {0, 255, 256, 511, -1, -256, LEAST, MOST, 0x1234};
            int[] bytes = {0, 255, 0, 255, 255, 0, 0, 255, 0x34};
            for (int i : new int[] {0, 1, 299}) {
                int was = 9;
                for (int v = 0; v < values.length; v++) {
                    Check.due("poke(" + i + ", " + values[v] + ")", yard.poke(i, values[v]), was);
                    was = bytes[v];
                }
                Check.due("byte " + i, yard.poke(i, 9), was);
            }
            Check.due("byte 2", yard.poke(2, 9), 9);
            Check.due("byte 298", yard.poke(298, 9), 9);
        });
        Check.sentence("poke: NONE if there is none such", () -> {
            for (int i : new int[] {-1, 3, 4, 299, 300, LEAST, MOST}) {
                CodeYard yard = busy();
                Picture.refused("poke(" + i + ", 5)", yard, () -> yard.poke(i, 5));
                Check.due("none came", yard.end(4), -1);
            }
        });
    }

    private static void load() {
        Check.sentence("THE TAPE (empty then) becomes CODE k: how many INSTRUCTIONS it has", () -> {
            for (int k = 0; k <= 7; k++) {
                CodeYard yard = new CodeYard();
                Check.due("load(" + k + ")", Check.load(yard, k, Check.code(0, 1, 0, 2, 5, 22)), 4);
                Check.due("its size", yard.size(k), 9);
                Check.due("THE TAPE is empty", yard.end(1), -1);
                Check.due("nothing is left for another", yard.load(k), -1000);
            }
        });
        Check.sentence("in place of one that was", () -> {
            CodeYard yard = Check.yard(0, 9, 2, 1, 20, 20, 20, 22);
            yard.begin(0, 0);
            yard.go(9);
            Check.due("a lesser one", Check.load(yard, 0, Check.code(0, 8, 22)), 2);
            Check.due("its size", yard.size(0), 6);
            Check.due("its heights", yard.height(0, 5), 1);
            Check.due("no height of the other", yard.height(0, 8), -1);
            Check.due("no CELL of the other", yard.cell(0, 1), 0);
            yard.begin(0, 0);
            yard.go(9);
            Check.due("it runs", yard.state(1), 8);
            Check.due("a greater one", Check.load(yard, 0, Check.code(20, 20, 20, 20, 22)), 5);
            Check.due("its size", yard.size(0), 8);
            Check.due("its heights", yard.height(0, 7), 4);
        });
        Check.sentence("not SOUND, -1000 for each number of the FAULT, less the place, and CODE k stays", () -> {
            int[][] wrong = {{}, {3, 3, 3, 28}, {3, 3, 3, 0}, {3, 3, 3, 3, 8, 23}, {3, 3, 3, 20}, {3, 2, 3, 23},
                {3, 3, 3, 14, 23}, {3, 3, 4, 20, 23}};
            int[] answers = {-1000, -2003, -3003, -4003, -5003, -6001, -7003, -8004};
            for (int i = 0; i < wrong.length; i++) {
                CodeYard yard = ended();
                Check.tape(yard);
                String before = Picture.of(yard);
                Check.due("load(0)", Check.load(yard, 0, wrong[i]), answers[i]);
                Check.that("CODE 0 and all else stays, THE TAPE is empty", before.equals(Picture.of(yard)));
            }
        });
    }

    private static void loadRefused() {
        Check.sentence("NONE, and THE TAPE stays, if there is no such k", () -> {
            for (int k : new int[] {-1, 8, -8, LEAST, MOST}) {
                CodeYard yard = ended();
                Check.tape(yard, 3, 3, 3, 23);
                Picture.refused("load(" + k + ")", yard, () -> yard.load(k));
                Check.due("it can be taken then", yard.load(0), 1);
            }
        });
        Check.sentence("NONE, and THE TAPE stays, if a RUN is HELD", () -> {
            for (int k : new int[] {0, 1, 2, 7}) {
                CodeYard yard = busy();
                Check.tape(yard, 3, 3, 3, 23);
                Picture.refused("load(" + k + ")", yard, () -> yard.load(k));
                Check.due("it ends", yard.go(9), 0);
                Check.due("ended: it can be taken", yard.load(k), 1);
            }
            CodeYard wrong = busy();
            Picture.refused("load of what is not SOUND", wrong, () -> wrong.load(0));
            CodeYard yard = thrown();
            Check.tape(yard, 3, 3, 3, 23);
            Check.due("thrown: it can be taken", yard.load(7), 1);
            yard.begin(7, 0);
            Check.tape(yard, 3, 3, 3, 23);
            Picture.refused("load as no INSTRUCTION is done yet", yard, () -> yard.load(7));
        });
    }

    private static void begin() {
        Check.sentence("A RUN of CODE k begins at BEGINNING b; no INSTRUCTION is done: 1, it is HELD", () -> {
            CodeYard yard = new CodeYard();
            for (int k = 0; k <= 7; k += 7) {
                Check.load(yard, k, 5, 3, 4, 24, 24, 24);
                int[] places = {5, 3, 4};
                for (int b = 0; b <= 2; b++) {
                    Check.due("begin(" + k + ", " + b + ")", yard.begin(k, b), 1);
                    Check.states("begun", yard, 1, 0, 0, 0, 1, k, places[b], 0);
                }
                yard.go(1);
            }
        });
        Check.sentence("THE TAPE (empty then) being INPUT", () -> {
            CodeYard yard = Check.yard(20, 22);
            for (int n : new int[] {300, 1, 0, 20}) {
                Check.tape(yard, Check.times(n, 5));
                yard.begin(0, 0);
                Check.due("THE TAPE is empty", yard.end(1), -1);
                Check.due("feed", yard.feed(0, 0, 0, 0, 0), 20);
                yard.go(9);
                Check.due("INPUT", yard.state(1), n);
                Check.due("what came later is on THE TAPE", yard.end(20), 20);
            }
        });
        Check.sentence("in place of one that was HELD (that is undone)", () -> {
            CodeYard yard = busy();
            Check.due("HELD: CELL 3", yard.cell(0, 3), 30);
            Check.due("begin", yard.begin(1, 0), 1);
            Check.due("undone: CELL 3", yard.cell(0, 3), 0);
            Check.states("the new one", yard, 1, 0, 0, 0, 1, 1, 6, 0);
            Check.due("the new one's THE OUT", yard.out(0), -1);
            Check.due("the new one ends", yard.go(9), 0);
            Check.due("with its own", yard.state(1), 34);
        });
        Check.sentence("one that has ended is not undone", () -> {
            CodeYard yard = ended();
            yard.begin(1, 0);
            Check.due("CELL 3", yard.cell(0, 3), 30);
            yard.begin(7, 0);
            Check.due("nor by the undone one between", yard.cell(0, 3), 30);
            yard.go(9);
            Check.due("nor by a throw", yard.cell(0, 3), 30);
        });
    }

    private static void beginRefused() {
        Check.sentence("begin: NONE, and nothing else, if there is none such", () -> {
            int[][] wrong = {{-1, 0}, {8, 0}, {2, 0}, {6, 2}, {0, -1}, {0, 3}, {7, 8}, {LEAST, 0}, {MOST, 0},
                {0, LEAST}, {0, MOST}, {2, 3}};
            for (int[] w : wrong) {
                String call = "begin(" + w[0] + ", " + w[1] + ")";
                CodeYard held = busy();
                Picture.refused("held: " + call, held, () -> held.begin(w[0], w[1]));
                Check.due("it goes on", held.go(9), 0);
                Check.due("it ends as ever", held.state(1), 33);
                CodeYard ended = ended();
                Picture.refused("ended: " + call, ended, () -> ended.begin(w[0], w[1]));
                CodeYard thrown = thrown();
                Picture.refused("thrown: " + call, thrown, () -> thrown.begin(w[0], w[1]));
            }
            CodeYard none = new CodeYard();
            Check.tape(none, 1, 2);
            Picture.refused("without a CODE", none, () -> none.begin(0, 0));
        });
    }

    private static void go() {
        Check.sentence("Up to n INSTRUCTIONS (0 .. 2001) of the RUN that is HELD", () -> {
            for (int n : new int[] {0, 1, 2, 1999, 2000}) {
                CodeYard yard = Check.yard(16, 3);
                yard.begin(0, 0);
                Check.due("go(" + n + ")", yard.go(n), 1);
                Check.due("done", yard.state(3), n);
            }
            CodeYard yard = Check.yard(16, 3);
            yard.begin(0, 0);
            Check.due("go(2001)", yard.go(2001), 2);
            Check.due("done", yard.state(3), 2000);
        });
        Check.sentence("0 it has ended, 1 it is HELD still, 2 it has THROWN", () -> {
            int[] lasts = {22, 23, 24};
            int[] answers = {0, 0, 2};
            for (int i = 0; i < 3; i++) {
                for (int n : new int[] {1, 2, 3, 2001}) {
                    CodeYard yard = Check.yard(0, 4, lasts[i]);
                    yard.begin(0, 0);
                    Check.due("go(0)", yard.go(0), 1);
                    int want = n < 2 ? 1 : answers[i];
                    Check.due("go(" + n + ")", yard.go(n), want);
                    Check.due("state(0)", yard.state(0), want);
                    Check.due("done", yard.state(3), Math.min(n, 2));
                }
            }
        });
        Check.sentence("NONE for another n", () -> {
            for (int n : new int[] {-1, 2002, -2001, LEAST, MOST}) {
                CodeYard yard = busy();
                Picture.refused("go(" + n + ")", yard, () -> yard.go(n));
            }
        });
        Check.sentence("NONE if none is HELD", () -> {
            for (int n : new int[] {-1, 0, 1, 2001, 2002}) {
                CodeYard none = new CodeYard();
                Picture.refused("without a RUN: go(" + n + ")", none, () -> none.go(n));
                CodeYard ended = ended();
                Picture.refused("ended: go(" + n + ")", ended, () -> ended.go(n));
                CodeYard thrown = thrown();
                Picture.refused("thrown: go(" + n + ")", thrown, () -> thrown.go(n));
            }
        });
    }

    private static void state() {
        Check.sentence("0: 0 ended, 1 HELD, 2 THROWN, and 1 to 7 with it", () -> {
            Check.states("HELD", busy(), 1, 0, 0, 7, 2, 1, 5, 1);
            Check.states("ended", ended(), 0, 33, 0, 9, 0, -1, -1, 1);
            Check.states("THROWN", thrown(), 2, 0, 1, 3, 0, -1, -1, 0);
        });
        Check.sentence("1: what it ended with (0)", () -> {
            CodeYard yard = ended();
            Check.due("ended", yard.state(1), 33);
            yard.begin(0, 0);
            Check.due("HELD", yard.state(1), 0);
            yard.go(9);
            Check.due("ended", yard.state(1), 33);
            yard.begin(7, 0);
            yard.go(9);
            Check.due("THROWN", yard.state(1), 0);
        });
        Check.sentence("2: the reason (0)", () -> {
            CodeYard yard = thrown();
            Check.due("THROWN", yard.state(2), 1);
            yard.begin(7, 0);
            Check.due("HELD", yard.state(2), 0);
            yard.go(9);
            Check.due("THROWN", yard.state(2), 1);
            yard.begin(1, 0);
            yard.go(9);
            Check.due("ended", yard.state(2), 0);
        });
        Check.sentence("3: INSTRUCTIONS done (the one that THROWS counted, 2001 not)", () -> {
            CodeYard yard = Check.yard(24);
            yard.begin(0, 0);
            Check.due("none", yard.state(3), 0);
            yard.go(2001);
            Check.due("the one that THROWS", yard.state(3), 1);
            CodeYard ring = Check.yard(20, 14, 16, 3);
            ring.begin(0, 0);
            ring.go(2001);
            Check.due("2001", ring.state(3), 2000);
            ring.begin(0, 0);
            Check.due("anew", ring.state(3), 0);
        });
        Check.sentence("4: how many are within one another (0 if it is not HELD)", () -> {
            CodeYard yard = Check.yard(27, 0, 22);
            yard.begin(0, 0);
            for (int many = 1; many <= 8; many++) {
                Check.due("HELD", yard.state(4), many);
                yard.go(1);
            }
            Check.due("THROWN", yard.state(4), 0);
            Check.due("ended", ended().state(4), 0);
        });
        Check.sentence("5, 6: NONE if it is not HELD", () -> {
            CodeYard held = Check.yard(27, 15, 22);
            Check.load(held, 7, Check.join(new int[] {3, 255, 3}, Check.times(253, 23)));
            held.begin(0, 0);
            held.go(1);
            Check.due("HELD: the CODE", held.state(5), 7);
            Check.due("HELD: the place", held.state(6), 255);
            held.go(9);
            Check.due("ended: the CODE", held.state(5), -1);
            Check.due("ended: the place", held.state(6), -1);
            Check.due("THROWN: the CODE", thrown().state(5), -1);
            Check.due("THROWN: the place", thrown().state(6), -1);
        });
        Check.sentence("7: bytes of THE OUT", () -> {
            CodeYard yard = Check.yard(Check.join(Check.times(65, 20, 21), new int[] {23}));
            yard.begin(0, 0);
            for (int n = 0; n < 64; n++) {
                Check.due("bytes", yard.state(7), n);
                yard.go(2);
            }
            Check.due("bytes", yard.state(7), 64);
            Check.due("one more", yard.go(2), 2);
            Check.due("bytes", yard.state(7), 64);
        });
        Check.sentence("NONE without a RUN, or for another what", () -> {
            int[] others = {-1, 8, LEAST, MOST};
            for (int what : others) {
                Check.due("new", new CodeYard().state(what), -1);
                Check.due("HELD", busy().state(what), -1);
                Check.due("ended", ended().state(what), -1);
                Check.due("THROWN", thrown().state(what), -1);
            }
            CodeYard yard = Check.yard(23);
            yard.begin(1, 0);
            yard.begin(0, 3);
            for (int what = 0; what <= 7; what++) {
                Check.due("a CODE, but no RUN yet", yard.state(what), -1);
            }
        });
    }

    private static void stackAndLocal() {
        Check.sentence("Place i of the STACK, from 0 (the lowest) on; 0 if there is none such", () -> {
            CodeYard yard = Check.yard(0, 1, 0, 2, 0, 3, 0, 4, 0, 5, 0, 6, 0, 7, 0, 8, 22);
            yard.begin(0, 0);
            for (int there = 0; there <= 8; there++) {
                for (int i = -1; i <= 9; i++) {
                    Check.due("stack(" + i + ") of " + there, yard.stack(i), i >= 0 && i < there ? i + 1 : 0);
                }
                Check.due("stack(least)", yard.stack(LEAST), 0);
                Check.due("stack(most)", yard.stack(MOST), 0);
                yard.go(1);
            }
            Check.due("it has ended", yard.state(0), 0);
            Check.due("ended", yard.stack(0), 0);
        });
        Check.sentence("LOCAL i; 0 if there is none such", () -> {
            CodeYard yard = Check.yard(0, 1, 4, 0, 0, 8, 4, 7, 24);
            yard.begin(0, 0);
            yard.go(4);
            Check.due("LOCAL 0", yard.local(0), 1);
            Check.due("LOCAL 7", yard.local(7), 8);
            for (int i : new int[] {-1, 1, 6, 8, 15, LEAST, MOST}) {
                Check.due("local(" + i + ")", yard.local(i), 0);
            }
            yard.go(1);
            Check.due("THROWN: LOCAL 0", yard.local(0), 0);
            Check.due("THROWN: LOCAL 7", yard.local(7), 0);
        });
        Check.sentence("of what is at work in the RUN that is HELD", () -> {
            CodeYard yard = Check.yard(0, 50, 4, 0, 0, 51, 27, 1, 22);
            Check.load(yard, 1, Check.code(0, 60, 4, 0, 0, 61, 22));
            yard.begin(0, 0);
            int[] stacks = {0, 50, 0, 51, 0, 60, 0, 61, 51};
            int[] locals = {0, 0, 50, 50, 0, 0, 60, 60, 50};
            for (int i = 0; i < stacks.length; i++) {
                Check.due("stack(0) behind " + i, yard.stack(0), stacks[i]);
                Check.due("local(0) behind " + i, yard.local(0), locals[i]);
                yard.go(1);
            }
            Check.due("ended: stack(0)", yard.stack(0), 0);
            Check.due("ended: local(0)", yard.local(0), 0);
        });
    }

    private static void cell() {
        Check.sentence("CELL i of CODE k as it is now (also while a RUN is HELD)", () -> {
            CodeYard yard = Check.yard(0, 7, 2, 15, 0, 8, 2, 15, 23);
            yard.begin(0, 0);
            int[] due = {0, 0, 7, 7, 8, 8};
            for (int i = 0; i < due.length; i++) {
                Check.due("behind " + i, yard.cell(0, 15), due[i]);
                yard.go(1);
            }
            CodeYard busy = busy();
            Check.due("of one that is not at work", busy.cell(0, 3), 30);
        });
        Check.sentence("cell: 0 if there is none such", () -> {
            CodeYard yard = new CodeYard();
            for (int k = 0; k <= 7; k += 7) {
                Check.load(yard, k, Check.code(0, 7, 2, 0, 0, 8, 2, 15, 23));
                yard.begin(k, 0);
                yard.go(9);
            }
            for (int i : new int[] {-1, 16, 17, LEAST, MOST}) {
                Check.due("cell(0, " + i + ")", yard.cell(0, i), 0);
                Check.due("cell(7, " + i + ")", yard.cell(7, i), 0);
            }
            for (int k : new int[] {-1, 1, 6, 8, LEAST, MOST}) {
                Check.due("cell(" + k + ", 0)", yard.cell(k, 0), 0);
                Check.due("cell(" + k + ", 15)", yard.cell(k, 15), 0);
            }
            Check.due("cell(0, 0)", yard.cell(0, 0), 7);
            Check.due("cell(7, 15)", yard.cell(7, 15), 8);
        });
    }

    private static void out() {
        Check.sentence("Byte i of THE OUT; NONE if there is none such", () -> {
            int[] last = {0, 6, 21, 0, 255, 21, 23};
            CodeYard yard = Check.yard(Check.join(Check.times(31, 0, 5, 21, 0, 0, 21), last));
            yard.begin(0, 0);
            Check.due("none yet", yard.out(0), -1);
            yard.go(2);
            Check.due("the first", yard.out(0), 5);
            Check.due("no second yet", yard.out(1), -1);
            Check.due("it ends", yard.go(2001), 0);
            Check.due("out(61)", yard.out(61), 0);
            Check.due("out(62)", yard.out(62), 6);
            Check.due("out(63)", yard.out(63), 255);
            for (int i : new int[] {-1, 64, 65, LEAST, MOST}) {
                Check.due("out(" + i + ")", yard.out(i), -1);
            }
        });
    }

    private static void height() {
        Check.sentence("How many are on the STACK where place p of CODE k is come to", () -> {
            CodeYard yard = Check.yard(20, 20, 20, 20, 20, 20, 20, 20, 22);
            for (int p = 3; p <= 11; p++) {
                Check.due("height(0, " + p + ")", yard.height(0, p), p - 3);
            }
            Check.load(yard, 7, Check.join(new int[] {255, 255, 255}, Check.times(253, 23)));
            Check.due("place 255", yard.height(7, 255), 0);
        });
        Check.sentence("height: NONE if it never is, or there is none such", () -> {
            // 3: 0 0, 5: 17 8, 7: 23, 8: 16 8, 10: 23, 11: 23
            CodeYard yard = Check.yard(0, 0, 17, 8, 23, 16, 8, 23, 23);
            int[] due = {-1, -1, -1, 0, -1, 1, -1, 0, 0, -1, -1, -1};
            for (int p = 0; p < due.length; p++) {
                Check.due("height(0, " + p + ")", yard.height(0, p), due[p]);
            }
            for (int p : new int[] {-1, 12, 255, 256, LEAST, MOST}) {
                Check.due("height(0, " + p + ")", yard.height(0, p), -1);
            }
            for (int k : new int[] {-1, 1, 7, 8, LEAST, MOST}) {
                Check.due("height(" + k + ", 3)", yard.height(k, 3), -1);
            }
        });
    }

    private static void size() {
        Check.sentence("How many bytes CODE k has; NONE if there is none such", () -> {
            CodeYard yard = new CodeYard();
            Check.load(yard, 0, 3, 3, 3, 23);
            Check.load(yard, 7, Check.code(Check.times(253, 23)));
            Check.due("size(0)", yard.size(0), 4);
            Check.due("size(7)", yard.size(7), 256);
            for (int k : new int[] {-1, 1, 6, 8, LEAST, MOST}) {
                Check.due("size(" + k + ")", yard.size(k), -1);
            }
            Check.due("one byte too many", Check.load(yard, 6, Check.code(Check.times(254, 23))), -1257);
            Check.due("size(6)", yard.size(6), -1);
        });
    }
}
