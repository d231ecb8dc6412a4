import java.util.Random;

/** Runs of calls from fixed seeds: the program answers each as the plain model does. */
public final class ModelTest {
    private static final int RUNS = 6000;
    // What an object answers later is free.
    private static final int CALLS = 512;
    // No step makes more calls: the longest is a profile of four parts with three items each.
    private static final int STEP = 120;
    private static final int ALL_QUESTIONS = 90;
    private static final int[] EXTREMES = {Integer.MIN_VALUE, Integer.MAX_VALUE, -1, 0, 1, 63, 64, -64, -65,
        8191, 8192, -8192, -8193, 1 << 20, -(1 << 20) - 1, 1 << 27, 1 << 30, -(1 << 30) - 1};
    private static final Check check = new Check();

    private final Random random;
    private final EventRecorder program;
    private final PlainModel model;
    // A run keeps to one of a few leanings, so that full pools, losses and evictions all come often.
    private final int bigInts;
    private final int manyStrings;
    private final int flushes;
    private final int readAtTheEnd;
    private int left = CALLS;

    private ModelTest(long seed) {
        random = new Random(seed);
        int size = random.nextInt(8) == 0 ? extreme() : 14 + random.nextInt(49);
        int pool = random.nextInt(8) == 0 ? extreme() : random.nextInt(7) - 1;
        int kept = random.nextInt(8) == 0 ? extreme() : random.nextInt(7);
        program = new EventRecorder(size, pool, kept);
        model = new PlainModel(size, pool, kept);
        bigInts = random.nextInt(4);
        manyStrings = random.nextInt(2);
        flushes = random.nextInt(4) == 0 ? 0 : 6;
        readAtTheEnd = random.nextInt(3) * 120;
        check.in("seed " + seed + ", new EventRecorder(" + size + ", " + pool + ", " + kept + ")");
    }

    public static void main(String[] args) {
        for (int seed = 0; seed < RUNS; seed++) {
            new ModelTest(seed).run();
        }
        check.end();
    }

    private void run() {
        for (int k = random.nextInt(6); k > 0; k--) {
            type();
        }
        for (int k = random.nextInt(3); k > 0; k--) {
            recordAndStart();
        }
        while (left > STEP + ALL_QUESTIONS + readAtTheEnd) {
            step();
        }
        compareAll();
    }

    private void same(String call, long got, long want) {
        left--;
        check.due("call " + (CALLS - left) + ", " + call, got, want);
    }

    private static long thrown(Check.Call call) {
        try {
            return call.answer();
        } catch (IllegalArgumentException e) {
            return PlainModel.ARGUMENT;
        } catch (IllegalStateException e) {
            return PlainModel.STATE;
        }
    }

    private void step() {
        int what = random.nextInt(100);
        if (what < 50) {
            event();
        } else if (what < 50 + flushes) {
            same("flush()", program.flush(), model.flush());
        } else if (what < 64) {
            int n = random.nextInt(10) == 0 ? extreme() : random.nextInt(4) == 0 ? random.nextInt(1003) - 1 : random.nextInt(9);
            same("advance(" + n + ")", program.advance(n), model.advance(n));
        } else if (what < 70) {
            settings();
        } else if (what < 74) {
            profile();
        } else if (what < 75) {
            type();
        } else if (what < 77) {
            recordAndStart();
        } else if (what < 84) {
            control(random.nextInt(12), some(4));
        } else {
            ask();
        }
    }

    private void event() {
        int thread = random.nextInt(3) == 0 ? some(3) : random.nextInt(2);
        int type = some(6);
        for (int k = random.nextInt(8) == 0 ? random.nextInt(4) : 1; k > 0; k--) {
            same("begin(" + thread + ")", program.begin(thread) ? 1 : 0, model.begin(thread));
        }
        if (random.nextInt(2) == 0) {
            write(string());
        }
        int a = value();
        int b = value();
        int c = value();
        same("commit(" + thread + ", " + type + ", " + a + ", " + b + ", " + c + ")",
            program.commit(thread, type, a, b, c), model.commit(thread, type, a, b, c));
    }

    private String string() {
        if (random.nextInt(20) == 0) {
            return "a rather long one";
        }
        return manyStrings == 1 ? "" + (char) (97 + random.nextInt(26)) : "x" + random.nextInt(6);
    }

    private void type() {
        int ints = random.nextInt(9) == 0 ? extreme() : random.nextInt(4);
        boolean string = random.nextBoolean();
        same("type(" + ints + ", " + string + ")", thrown(() -> program.type(ints, string)), model.type(ints, string));
    }

    private void recordAndStart() {
        same("record()", thrown(program::record), model.record());
        control(0, some(4));
    }

    private void control(int what, int k) {
        if (what == 0 || what == 1) {
            same("start(" + k + ")", thrown(() -> program.start(k)), model.start(k));
        } else if (what == 2) {
            same("stop(" + k + ")", thrown(() -> program.stop(k)), model.stop(k));
        } else if (what == 3 && random.nextInt(3) == 0) {
            same("close(" + k + ")", thrown(() -> program.close(k) ? 1 : 0), model.close(k));
        } else {
            dump(k);
        }
    }

    private void dump(int k) {
        same("dump(" + k + ")", thrown(() -> program.dump(k)), model.dump(k));
        int length = 0;
        while (model.output(length) != EventRecorder.NONE) {
            length++;
        }
        for (int reads = 0; reads < 5; reads++) {
            output(random.nextInt(length + 1));
        }
        output(length);
    }

    private void output(int k) {
        same("output(" + k + ")", program.output(k), model.output(k));
    }

    private void settings() {
        write(items());
        int k = some(4);
        same("settings(" + k + ")", thrown(() -> program.settings(k)), model.settings(k));
    }

    private void profile() {
        StringBuilder parts = new StringBuilder();
        for (int k = random.nextInt(4); k >= 0; k--) {
            if (random.nextInt(8) != 0) {
                parts.append(random.nextInt(5)).append(random.nextInt(15) == 0 ? ';' : ':').append(items());
            }
            parts.append(k > 0 ? "|" : "");
        }
        write(parts.toString());
        same("profile()", program.profile(), model.profile());
    }

    private String items() {
        StringBuilder items = new StringBuilder();
        for (int k = random.nextInt(3); k >= 0; k--) {
            items.append(random.nextInt(random.nextInt(9) == 0 ? 10 : 4));
            items.append(random.nextInt(25) == 0 ? "*" : random.nextInt(4) == 0 ? "-" : "+");
            if (random.nextInt(2) == 0) {
                items.append(random.nextInt(10));
            }
            if (random.nextInt(9) == 0) {
                items.append(random.nextInt(2000));
            }
            items.append(k > 0 || random.nextInt(25) == 0 ? "," : "");
        }
        return items.toString();
    }

    private void write(String characters) {
        for (int k = 0; k < characters.length(); k++) {
            char c = random.nextInt(300) == 0 ? (char) random.nextInt(300) : characters.charAt(k);
            same("write((char) " + (int) c + ")", program.write(c) ? 1 : 0, model.write(c));
        }
    }

    private void ask() {
        int k = random.nextInt(10) == 0 ? extreme() : random.nextInt(8) - 1;
        int type = some(6);
        switch (random.nextInt(6)) {
            case 0 -> same("state(" + k + ")", program.state(k), model.state(k));
            case 1 -> same("threshold(" + k + ", " + type + ")", program.threshold(k, type), model.threshold(k, type));
            case 2 -> same("buffered(" + k + ")", program.buffered(k), model.buffered(k));
            case 3 -> same("count(" + k + ")", program.count(k), model.count(k));
            case 4 -> same("lost(" + k + ")", program.lost(k), model.lost(k));
            default -> output(k);
        }
    }

    private void compareAll() {
        for (int k = -1; k <= 6; k++) {
            same("state(" + k + ")", program.state(k), model.state(k));
            same("buffered(" + k + ")", program.buffered(k), model.buffered(k));
            same("count(" + k + ")", program.count(k), model.count(k));
            same("lost(" + k + ")", program.lost(k), model.lost(k));
        }
        for (int k = 0; k < 4; k++) {
            for (int type = -1; type <= 6; type++) {
                same("threshold(" + k + ", " + type + ")", program.threshold(k, type), model.threshold(k, type));
            }
        }
        dump(random.nextInt(4));
        dump(random.nextInt(2));
        for (int k = 0; left > 0 && model.output(k) != EventRecorder.NONE; k++) {
            output(k);
        }
    }

    private int some(int bound) {
        int sort = random.nextInt(40);
        return sort == 0 ? extreme() : sort == 1 ? bound : random.nextInt(random.nextInt(3) == 0 ? bound : 2);
    }

    private int extreme() {
        return EXTREMES[random.nextInt(EXTREMES.length)];
    }

    private int value() {
        return random.nextInt(4) < bigInts ? random.nextBoolean() ? extreme() : random.nextInt() : random.nextInt(100) - 50;
    }
}
