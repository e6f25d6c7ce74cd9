import java.util.Random;

/**
 * Long mixed runs, always the same ones, held call by call against PlainModel: the answer of each
 * call, and after it everything that can be asked.
 */
final class ModelTest {
    private static final int RUNS = 400;
    private static final int CALLS = 512;
    private static final int[] SEEN = new int[16];

    private final Random random;
    private final NestedStore store;
    private final PlainModel model;
    private final int keys;
    private final int style;
    private final Due due;
    private String call = "new";

    private ModelTest(int seed, Due due) {
        random = new Random(seed);
        style = seed % 5;
        int frames = random.nextInt(11) - 1;
        keys = 2 + random.nextInt(31);
        store = new NestedStore(frames);
        model = new PlainModel(frames);
        this.due = due;
    }

    public static void main(String[] args) {
        Due due = new Due("ModelTest");
        for (int seed = 0; seed < RUNS && !due.anyWrong(); seed++) {
            new ModelTest(seed, due).run(seed);
        }
        for (String what : new String[] {"WAIT", "VICTIM", "BUSY", "FULL", "deep undo", "crash undo"}) {
            due.yes("the runs came upon " + what, SEEN[placeOf(what)] > 0);
        }
        due.end();
    }

    private static int placeOf(String what) {
        return switch (what) {
            case "WAIT" -> 2;
            case "VICTIM" -> 3;
            case "BUSY" -> 4;
            case "FULL" -> 5;
            case "deep undo" -> 6;
            default -> 7;
        };
    }

    private void run(int seed) {
        for (int i = 0; i < CALLS && !due.anyWrong(); i++) {
            int kind = random.nextInt(100);
            step(kind);
            compareAll("run " + seed + ", call " + i + ", after " + call);
        }
    }

    /** Mostly numbers that exist, now and then one that does not. */
    private int someTransaction() {
        int count = 0;
        while (store.state(count) != NestedStore.NONE) {
            count++;
        }
        if (random.nextInt(20) == 0) {
            return random.nextInt(64) - 2;
        }
        for (int i = 0; i < 12; i++) {
            int t = count == 0 ? 0 : random.nextInt(count);
            if (store.state(t) <= 2) {
                return t;
            }
        }
        return count - 1;
    }

    private int someKey() {
        return random.nextInt(40) == 0 ? random.nextInt(80) - 24 : random.nextInt(keys);
    }

    private int someValue() {
        return random.nextInt(8) == 0 ? random.nextInt() : random.nextInt(9) - 4;
    }

    private void answer(String what, int got, int want) {
        call = what;
        due.is(what, got, want);
        if (got <= -2 && got >= -5) {
            SEEN[-got]++;
        }
    }

    /** A style with few transactions and many updates, so that the room is used up. */
    private boolean isFilling() {
        return style == 2;
    }

    private boolean mayBegin() {
        return !isFilling() || store.log(4) == 0 || random.nextInt(12) == 0;
    }

    private void step(int kind) {
        int t = someTransaction();
        int k = someKey();
        if (kind < (style == 1 ? 8 : 14) && mayBegin()) {
            int parent = random.nextInt(3) == 0 ? -1 : t;
            answer("begin " + parent, store.begin(parent), model.begin(parent));
        } else if (kind < 22) {
            answer("get " + t + " " + k, store.get(t, k), model.get(t, k));
        } else if (kind < (isFilling() ? 70 : 48)) {
            int v = someValue();
            answer("put " + t + " " + k, store.put(t, k, v), model.put(t, k, v));
        } else if (kind < 58) {
            answer("delete " + t + " " + k, store.delete(t, k), model.delete(t, k));
        } else if (kind < 65) {
            int high = k + random.nextInt(8) - 1;
            answer("scan " + t + " " + k + " " + high, store.scan(t, k, high), model.scan(t, k, high));
        } else if (kind < 78) {
            answer("resume " + t, store.resume(t), model.resume(t));
        } else {
            stepOfOther(kind, t);
        }
    }

    private void stepOfOther(int kind, int t) {
        if (kind < (isFilling() ? 79 : 86)) {
            answer("commit " + t, store.commit(t), model.commit(t));
        } else if (kind < (isFilling() ? 80 : style == 3 ? 91 : 88)) {
            int got = store.abort(t);
            SEEN[6] += got > 2 ? 1 : 0;
            answer("abort " + t, got, model.abort(t));
        } else if (kind < 93) {
            answer("save " + t, store.save(t), model.save(t));
            int point = store.log(0) - random.nextInt(12) + 1;
            answer("rollback " + t + " " + point, store.rollback(t, point), model.rollback(t, point));
        } else if (kind < 96) {
            int p = random.nextInt(10) - 1;
            answer("write " + p, store.write(p) ? 1 : 0, model.write(p) ? 1 : 0);
        } else if (kind < 98 || isFilling() && random.nextInt(8) > 0) {
            answer("archive", store.archive(), model.archive());
        } else if (random.nextInt(3) > 0 || style == 4) {
            int behind = store.log(0) - store.log(1);
            int n = random.nextInt(behind + 3) - 1;
            int got = store.crash(n);
            SEEN[7] += got > 1 ? 1 : 0;
            answer("crash " + n, got, model.crash(n));
        }
    }

    private void compareAll(String when) {
        same(when, "value", store.value(), model.value());
        for (int what = -1; what <= 5; what++) {
            same(when, "log " + what, store.log(what), model.log(what));
        }
        for (int k = -1; k <= 32; k++) {
            for (int what = -1; what <= 4; what++) {
                same(when, "key " + k + " " + what, store.key(k, what), model.key(k, what));
            }
        }
        for (int p = -1; p <= 8; p++) {
            same(when, "frame " + p, store.frame(p), model.frame(p));
            same(when, "page " + p, store.page(p), model.page(p));
        }
        compareTransactions(when);
        compareRecords(when);
    }

    private void compareTransactions(String when) {
        int count = 0;
        while (model.state(count) != PlainModel.NONE) {
            count++;
        }
        for (int t = -1; t <= count; t++) {
            same(when, "state " + t, store.state(t), model.state(t));
            same(when, "parent " + t, store.parent(t), model.parent(t));
            for (int item = -1; item <= 33; item++) {
                same(when, "lock " + t + " " + item, store.lock(t, item), model.lock(t, item));
            }
            for (int u = -1; u <= count && model.state(t) == 2; u++) {
                same(when, "waits " + t + " " + u, store.waits(t, u) ? 1 : 0, model.waits(t, u) ? 1 : 0);
            }
        }
    }

    private void compareRecords(String when) {
        int last = model.log(0);
        for (int lsn = Math.max(-1, last - 24); lsn <= last + 1; lsn++) {
            for (int what = -1; what <= 6; what++) {
                same(when, "entry " + lsn + " " + what, store.entry(lsn, what), model.entry(lsn, what));
            }
        }
    }

    private void same(String when, String what, int got, int want) {
        if (got != want) {
            due.is(when + ": " + what, got, want);
        }
    }
}
