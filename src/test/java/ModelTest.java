import java.util.ArrayList;
import java.util.List;
import java.util.Map;
import java.util.Random;

/**
 * Long mixed runs, always the same ones, held against PlainModel: the answer of each of the 512
 * calls that an object has, and at some points of each run everything that can be asked.
 */
final class ModelTest {
    private static final int RUNS = 500;
    /** Behind this call an object has too few left for questions. */
    private static final int LAST_LOOK = 440;
    private static final int LOOKS = 20;
    /** How often answers came that the runs must come upon. */
    private static final Map<String, Integer> SEEN = new java.util.TreeMap<>();

    private final Random random;
    private final int frames;
    private final int keys;
    private final int style;
    private final NestedStore store;
    private final PlainModel model;
    private final List<Call> run = new ArrayList<>();
    private final Due due;

    private ModelTest(int seed, Due due) {
        random = new Random(seed);
        style = seed % 5;
        frames = random.nextInt(11) - 1;
        keys = 2 + random.nextInt(31);
        store = new NestedStore(frames);
        model = new PlainModel(frames);
        this.due = due;
    }

    public static void main(String[] args) {
        Due due = new Due("ModelTest");
        for (int seed = 0; seed < RUNS && !due.anyWrong(); seed++) {
            new ModelTest(seed, due).play("run " + seed);
        }
        for (String what : new String[] {"-2", "-3", "-4", "-5", "long abort", "long crash"}) {
            due.yes("the runs came upon " + what, SEEN.getOrDefault(what, 0) > 0);
        }
        due.end();
    }

    private void play(String name) {
        for (int i = 0; i < Everything.MOST_CALLS && !due.anyWrong(); i++) {
            boolean asks = random.nextInt(isFilling() ? 40 : 4) == 0;
            Call call = asks ? someQuestion() : someAction(random.nextInt(100));
            run.add(call);
            int answer = call.on(model);
            note(call, answer);
            due.is(name + ", call " + i + ": " + call, call.on(store), answer);
            if (i < LAST_LOOK && random.nextInt(LAST_LOOK) < LOOKS) {
                lookAround(name + ", after call " + i + ", " + call);
            }
        }
    }

    private void note(Call call, int answer) {
        if (!call.onlyAsks() && answer <= -2) {
            SEEN.merge(Integer.toString(answer), 1, Integer::sum);
        }
        if ((call.name().equals("abort") || call.name().equals("crash")) && answer > 2) {
            SEEN.merge("long " + call.name(), 1, Integer::sum);
        }
    }

    private void lookAround(String when) {
        Map<Call, Integer> want = Everything.of(model);
        Map<Call, Integer> got = Everything.after(frames, run);
        Call different = Everything.firstDifference(want, got);
        due.yes(when + ", not as due: " + different, different == null);
    }

    private int countOfTransactions() {
        int count = 0;
        while (model.state(count) != PlainModel.NONE) {
            count++;
        }
        return count;
    }

    /** Mostly numbers that exist and are live, now and then one that does not. */
    private int someTransaction() {
        int count = countOfTransactions();
        if (random.nextInt(20) == 0) {
            return random.nextInt(64) - 2;
        }
        for (int i = 0; i < 12; i++) {
            int t = count == 0 ? 0 : random.nextInt(count);
            if (model.state(t) <= 2) {
                return t;
            }
        }
        return count - 1;
    }

    private int someKey() {
        return random.nextInt(40) == 0 ? random.nextInt(80) - 24 : random.nextInt(keys);
    }

    private int someValue() {
        return random.nextInt(8) == 0 ? random.nextInt() : random.nextInt(9) - 4;
    }

    /** A style with few transactions and many updates, so that the room is used up. */
    private boolean isFilling() {
        return style == 2;
    }

    private boolean mayBegin() {
        return !isFilling() || model.log(4) == 0 || random.nextInt(12) == 0;
    }

    private Call someQuestion() {
        int t = someTransaction();
        return switch (random.nextInt(10)) {
            case 0 -> Call.of("value");
            case 1 -> Call.of("state", t);
            case 2 -> Call.of("parent", t);
            case 3 -> Call.of("lock", t, random.nextInt(35) - 1);
            case 4 -> Call.of("waits", t, someTransaction());
            case 5 -> Call.of("entry", model.log(0) - random.nextInt(30) + 1, random.nextInt(8) - 1);
            case 6 -> Call.of("log", random.nextInt(7) - 1);
            case 7 -> Call.of("key", random.nextInt(34) - 1, random.nextInt(6) - 1);
            case 8 -> Call.of("frame", random.nextInt(10) - 1);
            default -> Call.of("page", random.nextInt(10) - 1);
        };
    }

    private Call someAction(int kind) {
        int t = someTransaction();
        int k = someKey();
        if (kind < (style == 1 ? 8 : 14) && mayBegin()) {
            return Call.of("begin", random.nextInt(3) == 0 ? -1 : t);
        } else if (kind < 22) {
            return Call.of("get", t, k);
        } else if (kind < (isFilling() ? 70 : 48)) {
            return Call.of("put", t, k, someValue());
        } else if (kind < 58) {
            return Call.of("delete", t, k);
        } else if (kind < 65) {
            return Call.of("scan", t, k, k + random.nextInt(8) - 1);
        } else if (kind < 78) {
            return Call.of("resume", t);
        }
        return someOtherAction(kind, t);
    }

    private Call someOtherAction(int kind, int t) {
        if (kind < (isFilling() ? 79 : 86)) {
            return Call.of("commit", t);
        } else if (kind < (isFilling() ? 80 : style == 3 ? 91 : 88)) {
            return Call.of("abort", t);
        } else if (kind < 89) {
            return Call.of("save", t);
        } else if (kind < 93) {
            return Call.of("rollback", t, model.log(0) - random.nextInt(12) + 1);
        } else if (kind < 96) {
            return Call.of("write", random.nextInt(10) - 1);
        } else if (kind < 98 || isFilling() && random.nextInt(8) > 0) {
            return Call.of("archive");
        } else if (random.nextInt(3) > 0 || style == 4) {
            int behind = model.log(0) - model.log(1);
            return Call.of("crash", random.nextInt(behind + 3) - 1);
        }
        return Call.of("save", t);
    }
}
