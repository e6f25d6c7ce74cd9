import java.util.LinkedHashMap;
import java.util.List;
import java.util.Map;
import java.util.function.ToIntFunction;

/**
 * The answers to all that can be asked after a run of calls. An object is promised to answer 512
 * calls, so the run is played again on a new object whenever the one that is asked has had so many.
 */
final class Everything {
    static final int MOST_CALLS = 512;

    private final int frames;
    private final List<Call> run;
    private NestedStore store;
    private int calls;

    private Everything(int frames, List<Call> run) {
        this.frames = frames;
        this.run = run;
        playAgain();
    }

    /** The run has fewer than 512 calls. */
    static Map<Call, Integer> after(int frames, List<Call> run) {
        Everything played = new Everything(frames, run);
        return askAll(played::ask);
    }

    static Map<Call, Integer> of(PlainModel model) {
        return askAll(call -> call.on(model));
    }

    /** The first question that is answered in another way, or null. */
    static Call firstDifference(Map<Call, Integer> one, Map<Call, Integer> other) {
        for (Map.Entry<Call, Integer> answer : one.entrySet()) {
            if (!answer.getValue().equals(other.get(answer.getKey()))) {
                return answer.getKey();
            }
        }
        for (Call call : other.keySet()) {
            if (!one.containsKey(call)) {
                return call;
            }
        }
        return null;
    }

    private void playAgain() {
        store = new NestedStore(frames);
        for (Call call : run) {
            call.on(store);
        }
        calls = run.size();
    }

    private int ask(Call call) {
        if (calls >= MOST_CALLS) {
            playAgain();
        }
        calls++;
        return call.on(store);
    }

    private static Map<Call, Integer> askAll(ToIntFunction<Call> asked) {
        Map<Call, Integer> all = new LinkedHashMap<>();
        ask(all, asked, "value");
        for (int what = 0; what <= 4; what++) {
            ask(all, asked, "log", what);
        }
        for (int k = 0; k <= 31; k++) {
            for (int what = 0; what <= 3; what++) {
                ask(all, asked, "key", k, what);
            }
        }
        for (int p = 0; p <= 7; p++) {
            ask(all, asked, "frame", p);
            ask(all, asked, "page", p);
        }
        int last = ask(all, asked, "log", 0);
        int first = last - ask(all, asked, "log", 2) + 1;
        for (int lsn = first; lsn <= last; lsn++) {
            for (int what = 0; what <= 5; what++) {
                ask(all, asked, "entry", lsn, what);
            }
        }
        askTransactions(all, asked);
        return all;
    }

    private static void askTransactions(Map<Call, Integer> all, ToIntFunction<Call> asked) {
        int count = 0;
        while (count < 64 && ask(all, asked, "state", count) != -1) {
            count++;
        }
        for (int t = 0; t < count; t++) {
            ask(all, asked, "parent", t);
            boolean live = ask(all, asked, "state", t) <= 2;
            for (int item = 0; item <= 32; item++) {
                ask(all, asked, "lock", t, item);
            }
            for (int u = 0; live && u < count; u++) {
                ask(all, asked, "waits", t, u);
            }
        }
    }

    private static int ask(Map<Call, Integer> all, ToIntFunction<Call> asked, String name, int... args) {
        Call call = Call.of(name, args);
        Integer known = all.get(call);
        if (known == null) {
            known = asked.applyAsInt(call);
            all.put(call, known);
        }
        return known;
    }
}
