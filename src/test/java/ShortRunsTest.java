import java.util.ArrayList;
import java.util.List;
import java.util.Map;

/**
 * From some beginnings on, all short runs of a small set of calls: after each that is not refused,
 * everything that can be asked is as PlainModel has it. ModelTest has the long runs.
 */
final class ShortRunsTest {
    private static final Due DUE = new Due("ShortRunsTest");
    /** Two pages, and two keys of one page with a gap between. */
    private static final int[] KEYS = {3, 4, 6};

    private static int runs;

    private final int frames;
    private final List<Call> run = new ArrayList<>();

    private ShortRunsTest(int frames, String beginning) {
        this.frames = frames;
        for (String line : beginning.strip().split("\n")) {
            run.add(Call.of(line));
        }
    }

    public static void main(String[] args) {
        new ShortRunsTest(1, """
            begin -1
            begin 0
            """).extend(3);
        new ShortRunsTest(2, """
            begin -1
            put 0 4 1
            commit 0
            begin -1
            begin -1
            put 1 4 2
            put 2 4 3
            """).extend(3);
        new ShortRunsTest(1, """
            begin -1
            put 0 4 1
            put 0 8 1
            begin 0
            put 1 6 2
            begin -1
            get 2 6
            """).extend(3);
        new ShortRunsTest(8, """
            begin -1
            put 0 4 1
            begin 0
            begin 1
            put 2 4 2
            commit 2
            write 1
            """).extend(3);
        new ShortRunsTest(2, """
            begin -1
            put 0 8 1
            commit 0
            begin -1
            begin -1
            begin 1
            get 3 4
            put 2 8 2
            """).extend(3);
        new ShortRunsTest(1, """
            begin -1
            put 0 3 1
            put 0 6 1
            commit 0
            begin -1
            begin -1
            put 1 3 2
            get 2 6
            scan 2 0 6
            delete 1 6
            """).extend(3);
        DUE.yes("there were runs enough: " + runs, runs > 50_000);
        DUE.end();
    }

    /** Plays all runs that are so many calls longer; a refused call changes nothing, so no further. */
    private void extend(int more) {
        for (Call call : candidates(modelAfterRun())) {
            PlainModel model = modelAfterRun();
            int due = call.on(model);
            run.add(call);
            DUE.is("after " + run, answerOfLast(), due);
            runs++;
            boolean refused = due == -1 || due == -4 || call.name().equals("write") && due == 0;
            if (!refused && !DUE.anyWrong()) {
                lookAround(model);
                if (more > 1) {
                    extend(more - 1);
                }
            }
            run.remove(run.size() - 1);
        }
    }

    private PlainModel modelAfterRun() {
        PlainModel model = new PlainModel(frames);
        for (Call call : run) {
            call.on(model);
        }
        return model;
    }

    private int answerOfLast() {
        NestedStore store = new NestedStore(frames);
        int answer = 0;
        for (Call call : run) {
            answer = call.on(store);
        }
        return answer;
    }

    private void lookAround(PlainModel model) {
        Map<Call, Integer> want = Everything.of(model);
        Call different = Everything.firstDifference(want, Everything.after(frames, run));
        DUE.yes("after " + run + ", not as due: " + different, different == null);
    }

    private static List<Call> candidates(PlainModel model) {
        List<Call> calls = new ArrayList<>();
        calls.add(Call.of("begin", -1));
        calls.add(Call.of("archive"));
        calls.add(Call.of("write", 0));
        calls.add(Call.of("write", 1));
        int behind = model.log(0) - model.log(1);
        for (int n = 0; n <= behind; n++) {
            calls.add(Call.of("crash", n));
        }
        for (int t = 0; model.state(t) != -1; t++) {
            if (model.state(t) <= 2) {
                addCallsOf(t, model, calls);
            }
        }
        return calls;
    }

    private static void addCallsOf(int t, PlainModel model, List<Call> calls) {
        for (int k : KEYS) {
            calls.add(Call.of("get", t, k));
            calls.add(Call.of("put", t, k, 7));
            calls.add(Call.of("delete", t, k));
        }
        calls.add(Call.of("scan", t, 2, 6));
        calls.add(Call.of("begin", t));
        calls.add(Call.of("resume", t));
        calls.add(Call.of("commit", t));
        calls.add(Call.of("abort", t));
        calls.add(Call.of("rollback", t, model.log(0) - 1));
    }
}
