import java.util.Random;
import java.util.TreeMap;

/** Long runs of calls, drawn with fixed seeds, answered by the yard as by the model. */
public final class ModelTest {
    private static final int YARDS = 6000;
    private static final int CALLS = 512;
    private static final TreeMap<String, Integer> SEEN = new TreeMap<>();

    private final Random random;
    private final CodeYard yard = new CodeYard();
    private final Model model = new Model();
    private final StringBuilder told = new StringBuilder();
    private int calls;
    private boolean apart;

    private ModelTest(int seed) {
        random = new Random(seed);
    }

    public static void main(String[] args) {
        int wrong = 0;
        for (int seed = 0; seed < YARDS && wrong < 3; seed++) {
            ModelTest test = new ModelTest(seed);
            test.run();
            wrong += test.apart ? 1 : 0;
        }
        Check.due("yards that went another way", wrong, 0);
        for (int fault = 1; fault <= 8; fault++) {
            Check.that("fault " + fault + " was seen", SEEN.getOrDefault("fault " + fault, 0) > 50);
        }
        for (int reason = 1; reason <= 6; reason++) {
            Check.that("reason " + reason + " was seen", SEEN.getOrDefault("reason " + reason, 0) > 50);
        }
        System.out.println(SEEN);
        Check.finish();
    }

    private void run() {
        while (calls < CALLS - 60 && !apart) {
            switch (random.nextInt(8)) {
                case 0, 1 -> loadOne();
                case 2 -> tapeCalls();
                case 3 -> beginOne();
                case 4 -> lookAll();
                case 5 -> wild();
                default -> goOn();
            }
        }
    }

    private void same(String call, int got, int want) {
        calls++;
        told.append(call).append(" -> ").append(got).append('\n');
        if (got != want && !apart) {
            apart = true;
            System.out.println(told + "due is " + want);
        }
    }

    private static void seen(String what) {
        SEEN.merge(what, 1, Integer::sum);
    }

    private void feed(int[] v) {
        String call = "feed(" + v[0] + ", " + v[1] + ", " + v[2] + ", " + v[3] + ", " + v[4] + ")";
        same(call, yard.feed(v[0], v[1], v[2], v[3], v[4]), model.feed(v));
    }

    private void end(int n) {
        same("end(" + n + ")", yard.end(n), model.end(n));
    }

    private void bring(int[] bytes) {
        end(0);
        for (int from = 0; from < bytes.length; from += 20) {
            int[] v = new int[5];
            for (int i = from; i < from + 20; i++) {
                v[(i - from) / 4] = v[(i - from) / 4] << 8 | (i < bytes.length ? bytes[i] : random.nextInt(256));
            }
            feed(v);
        }
        end(bytes.length);
    }

    private void loadOne() {
        bring(Draw.code(random));
        int k = random.nextInt(8);
        int due = model.load(k);
        same("load(" + k + ")", yard.load(k), due);
        seen(due < -1 ? "fault " + -due / 1000 : due == -1 ? "no load" : "sound");
    }

    private void tapeCalls() {
        feed(random.ints(5).toArray());
        int i = random.nextInt(24) - 2;
        int v = random.nextInt();
        same("poke(" + i + ", " + v + ")", yard.poke(i, v), model.poke(i, v));
        end(random.nextInt(24) - 2);
        if (random.nextInt(20) == 0) {
            for (int n = 0; n < 16; n++) {
                feed(random.ints(5).toArray());
            }
        }
    }

    private void beginOne() {
        int k = random.nextInt(8);
        int b = random.nextInt(3);
        for (int more = 0; more < 8 && model.size(k) < 0; more++) {
            k = (k + 1) % 8;
        }
        if (random.nextBoolean()) {
            tapeCalls();
        }
        same("begin(" + k + ", " + b + ")", yard.begin(k, b), model.begin(k, b));
        goOn();
    }

    private void goOn() {
        int n = random.nextInt(3) == 0 ? random.nextInt(2002) : random.nextInt(12);
        int due = model.go(n);
        same("go(" + n + ")", yard.go(n), due);
        seen(due == 2 ? "reason " + model.state(2) : "go " + due);
        for (int what = 0; what < 8; what++) {
            same("state(" + what + ")", yard.state(what), model.state(what));
        }
        for (int i = 0; i < 3; i++) {
            lookAtStack(random.nextInt(9));
        }
    }

    private void lookAtStack(int i) {
        same("stack(" + i + ")", yard.stack(i), model.stack(i));
        same("local(" + i + ")", yard.local(i), model.local(i));
    }

    private void lookAll() {
        int k = random.nextInt(8);
        for (int i = 0; i < 16; i++) {
            same("cell(" + k + ", " + i + ")", yard.cell(k, i), model.cell(k, i));
        }
        for (int i = 0; i < 12; i++) {
            int p = random.nextInt(40);
            same("height(" + k + ", " + p + ")", yard.height(k, p), model.height(k, p));
        }
        for (int i = 0; i < 3; i++) {
            int at = random.nextInt(66);
            same("out(" + at + ")", yard.out(at), model.out(at));
        }
        same("size(" + k + ")", yard.size(k), model.size(k));
    }

    private int any() {
        switch (random.nextInt(4)) {
            case 0: return random.nextInt();
            case 1: return random.nextBoolean() ? Integer.MIN_VALUE : Integer.MAX_VALUE;
            default: return random.nextInt(310) - 4;
        }
    }

    /** Any arguments whatever: none may throw, and all are answered as the model does. */
    private void wild() {
        int a = any();
        int b = any();
        same("poke(" + a + ", " + b + ")", yard.poke(a, b), model.poke(a, b));
        same("state(" + a + ")", yard.state(a), model.state(a));
        same("stack(" + a + ")", yard.stack(a), model.stack(a));
        same("local(" + a + ")", yard.local(a), model.local(a));
        int k = random.nextInt(10) - 1;
        same("cell(" + k + ", " + a + ")", yard.cell(k, a), model.cell(k, a));
        same("height(" + k + ", " + b + ")", yard.height(k, b), model.height(k, b));
        same("out(" + a + ")", yard.out(a), model.out(a));
        same("size(" + b + ")", yard.size(b), model.size(b));
        same("begin(" + k + ", " + a + ")", yard.begin(k, a), model.begin(k, a));
        same("begin(" + a + ", " + b + ")", yard.begin(a, b), model.begin(a, b));
        same("load(" + b + ")", yard.load(b), model.load(b));
        same("go(" + b + ")", yard.go(b), model.go(b));
        end(a);
    }
}
