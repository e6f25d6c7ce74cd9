import java.util.ArrayList;
import java.util.LinkedHashSet;
import java.util.List;
import java.util.Map;
import java.util.Random;
import java.util.Set;

/**
 * "What is refused (NONE, BUSY, false) changes nothing": in several states all calls with arguments
 * at, below and above each limit are made, each on an object of its own; PlainModel tells which are
 * refused. And no call throws, whatever its arguments are.
 */
final class RefusalTest {
    private static final Due DUE = new Due("RefusalTest");
    private static final int LOWEST = Integer.MIN_VALUE;
    private static final int HIGHEST = Integer.MAX_VALUE;
    private static final int[] KEYS = {LOWEST, -1, 0, 4, 31, 32, HIGHEST};
    private static final int[] PAGES = {LOWEST, -1, 0, 1, 2, 7, 8, HIGHEST};

    private static final String MIXED = """
        begin -1
        put 0 4 40
        begin 0
        begin -1
        get 2 4
        begin -1
        commit 3
        begin -1
        abort 4
        put 1 8 80
        begin 1
        get 1 4
        """;
    private static final String WAITING = """
        begin -1
        put 0 4 40
        begin -1
        put 1 4 41
        begin -1
        scan 2 0 31
        begin -1
        delete 3 4
        begin -1
        get 4 5
        """;
    /** New, mixed, waiting, after a crash, after archive, full at 300, at 299, all 60 and depth 4. */
    private static final String[] STATES = {
        "",
        MIXED,
        WAITING,
        MIXED + "crash 7\n",
        MIXED + "abort 0\nabort 2\narchive\n",
        "begin -1\n" + "put 0 4 1\n".repeat(149),
        "begin -1\nput 0 0 0\ncommit 0\nbegin -1\nbegin 1\nbegin -1\nget 2 0\nput 3 0 1\n"
            + "put 2 8 1\n".repeat(145),
        "begin -1\nbegin 0\nbegin 1\nbegin 2\n" + "begin -1\n".repeat(56)
    };

    /** What is kept unseen, such as the request of one that waits, shows in what comes later. */
    private static final String AFTERWARDS = """
        commit 5
        commit 1
        commit 0
        resume 1
        put 1 31 7
        commit 1
        resume 2
        value
        commit 2
        resume 3
        commit 3
        resume 4
        value
        commit 4
        begin -1
        save 5
        save 6
        crash 0
        archive
        begin -1
        """;

    public static void main(String[] args) {
        for (int i = 0; i < STATES.length; i++) {
            new RefusalTest("state " + i, i % 3 + 1, STATES[i]).tryAll();
        }
        for (int seed = 0; seed < 60; seed++) {
            callWildly(seed);
        }
        DUE.end();
    }

    private final String name;
    private final int frames;
    private final List<Call> run = new ArrayList<>();
    private final Map<Call, Integer> before;
    private final String later;
    private PlainModel model;
    private int refused;

    private RefusalTest(String name, int frames, String text) {
        this.name = name;
        this.frames = frames;
        run.addAll(calls(text));
        before = Everything.after(frames, run);
        later = laterAnswers(run);
        model = playedModel();
        Call different = Everything.firstDifference(Everything.of(model), before);
        DUE.yes(name + " at first, not as due: " + different, different == null);
    }

    private static List<Call> calls(String text) {
        return text.lines().filter(line -> !line.isBlank()).map(Call::of).toList();
    }

    /** The answers to what is done afterwards, and everything in the end. */
    private String laterAnswers(List<Call> done) {
        NestedStore store = new NestedStore(frames);
        done.forEach(call -> call.on(store));
        StringBuilder answers = new StringBuilder();
        for (Call call : calls(AFTERWARDS)) {
            answers.append(call).append(" = ").append(call.on(store)).append("; ");
        }
        List<Call> whole = new ArrayList<>(done);
        whole.addAll(calls(AFTERWARDS));
        return answers.append(Everything.after(frames, whole)).toString();
    }

    private PlainModel playedModel() {
        PlainModel played = new PlainModel(frames);
        run.forEach(call -> call.on(played));
        return played;
    }

    private void tryAll() {
        for (Call call : candidates()) {
            tryOne(call);
        }
        DUE.yes(name + ": some calls are refused", refused > 100);
    }

    private void tryOne(Call call) {
        int want = call.on(model);
        List<Call> longer = new ArrayList<>(run);
        longer.add(call);
        NestedStore store = new NestedStore(frames);
        int got = 0;
        for (Call each : longer) {
            got = each.on(store);
        }
        DUE.is(name + ": " + call, got, want);
        boolean ofWrite = call.name().equals("write");
        if (ofWrite ? want == 0 : want == -1 || want == -4) {
            refused++;
            Call changed = Everything.firstDifference(before, Everything.after(frames, longer));
            DUE.yes(name + ": " + call + " is refused, but changes: " + changed, changed == null);
            DUE.yes(name + ": " + call + " is refused, but shows later", later.equals(laterAnswers(longer)));
        } else {
            model = playedModel();
        }
    }

    private Set<Integer> transactions() {
        Set<Integer> numbers = new LinkedHashSet<>(List.of(LOWEST, LOWEST + 1, -65, -64, -2, -1));
        int count = 0;
        while (model.state(count) != PlainModel.NONE) {
            count++;
        }
        numbers.addAll(List.of(0, 1, 2, 3, 4, 5, count - 1, count, count + 1));
        numbers.addAll(List.of(58, 59, 60, 61, 63, 64, 65, 128, HIGHEST - 1, HIGHEST));
        return numbers;
    }

    private Set<Integer> points() {
        int last = model.log(0);
        Set<Integer> points = new LinkedHashSet<>(List.of(LOWEST, -1, 0, HIGHEST));
        for (int lsn = 1; lsn < 8; lsn++) {
            points.add(lsn);
        }
        points.addAll(List.of(last - 1, last, last + 1));
        return points;
    }

    private Set<Integer> countsBehind() {
        int behind = model.log(0) - model.log(1);
        return new LinkedHashSet<>(
                List.of(LOWEST, -1, 0, 1, behind - 1, behind, behind + 1, behind + 2, HIGHEST));
    }

    private List<Call> candidates() {
        List<Call> all = new ArrayList<>();
        for (int t : transactions()) {
            for (String name : new String[] {"begin", "resume", "commit", "abort", "save"}) {
                all.add(Call.of(name, t));
            }
            for (int point : points()) {
                all.add(Call.of("rollback", t, point));
            }
            for (int k : KEYS) {
                all.add(Call.of("get", t, k));
                all.add(Call.of("put", t, k, k));
                all.add(Call.of("delete", t, k));
                for (int high : KEYS) {
                    all.add(Call.of("scan", t, k, high));
                }
            }
        }
        for (int page : PAGES) {
            all.add(Call.of("write", page));
        }
        for (int n : countsBehind()) {
            all.add(Call.of("crash", n));
        }
        all.add(Call.of("archive"));
        return all;
    }

    /** What is answered after the 512th call is free, but no call may throw then either. */
    private static void callWildly(int seed) {
        Random random = new Random(seed);
        NestedStore store = new NestedStore(seed % 10);
        String[] names = {
            "begin", "begin", "get", "put", "put", "put", "delete", "scan", "resume", "resume", "value",
            "commit", "abort", "save", "rollback", "write", "archive", "crash", "state", "parent",
            "lock", "waits", "entry", "log", "key", "frame", "page"
        };
        int calls = 0;
        while (calls < 2000) {
            String name = names[random.nextInt(names.length)];
            boolean seldom = name.equals("crash") && random.nextInt(9) > 0;
            Call.of(seldom ? "value" : name, some(random), some(random), some(random)).on(store);
            calls++;
            if (calls == Everything.MOST_CALLS - 5) {
                int used = store.log(2) + store.log(3) + store.log(4);
                DUE.yes("the room is never above 300", used <= 300);
                DUE.yes("FLUSHED is not above the last LSN", store.log(1) <= store.log(0));
            }
        }
    }

    private static int some(Random random) {
        int kind = random.nextInt(8);
        if (kind == 0) {
            return random.nextInt();
        }
        int[] odd = {LOWEST, LOWEST + 1, -65, -64, -33, -5, -2, -1, 8, 31, 32, 33, 59, 60, 61, 63, 64,
            65, 300, 301, HIGHEST - 1, HIGHEST};
        return kind < 3 ? odd[random.nextInt(odd.length)] : random.nextInt(33) - 1;
    }
}
