import java.util.ArrayList;
import java.util.List;
import java.util.Map;

/**
 * Plays a text of calls. A line is a call with its arguments, "=" and the answer that is due, as a
 * number or a name (NONE, true, ..); "new F" makes the object anew; what stands behind "#" says why
 * the answer is due. Each call that is refused, or only asks, must leave all as it was, and one that
 * is answered FULL all but locks: that is looked at by itself.
 */
final class Script {
    private static final int NONE = -1;
    private static final int BUSY = -4;
    private static final int FULL = -5;

    private final Due due;
    private final String name;
    private final List<Call> run = new ArrayList<>();
    private int frames = 8;
    private NestedStore store = new NestedStore(frames);
    /** Everything as it is after the run, or null when it has not been asked yet. */
    private Map<Call, Integer> known;

    Script(Due due, String name) {
        this.due = due;
        this.name = name;
    }

    static void play(Due due, String name, String text) {
        new Script(due, name).play(text);
    }

    void play(String text) {
        for (String line : text.split("\n")) {
            String call = line.replaceAll("#.*", "").strip();
            if (!call.isEmpty()) {
                playLine(call);
            }
        }
    }

    void play(int answer, String call, int... args) {
        playCall(Call.of(call, args), answer);
    }

    /** The answer to a question, whatever it is. */
    int ask(String question, int... args) {
        Call call = Call.of(question, args);
        run.add(call);
        return call.on(store);
    }

    private void playLine(String line) {
        String[] sides = line.split("=");
        if (sides.length == 2) {
            playCall(Call.of(sides[0]), number(sides[1].strip()));
        } else if (line.startsWith("new ")) {
            make(Integer.parseInt(line.substring(4).strip()));
        } else {
            throw new IllegalArgumentException(line);
        }
    }

    void make(int itsFrames) {
        frames = itsFrames;
        store = new NestedStore(frames);
        run.clear();
        known = null;
    }

    private void playCall(Call call, int answer) {
        boolean full = !call.onlyAsks() && answer == FULL;
        boolean keepsAll = call.onlyAsks() || isRefused(call, answer) || full;
        Map<Call, Integer> before = keepsAll ? everything() : null;
        due.is(where(call), call.on(store), answer);
        run.add(call);
        if (run.size() > Everything.MOST_CALLS) {
            due.yes(where(call) + ": an object has 512 calls", false);
        }
        known = null;
        if (before != null && run.size() < Everything.MOST_CALLS) {
            compare(call, full, before);
        }
    }

    private String where(Call call) {
        return name + ": call " + run.size() + ": " + call;
    }

    private Map<Call, Integer> everything() {
        if (known == null && run.size() < Everything.MOST_CALLS) {
            known = Everything.after(frames, run);
        }
        return known;
    }

    private static boolean isRefused(Call call, int answer) {
        if (call.name().equals("write")) {
            return answer == 0;
        }
        return answer == NONE || answer == BUSY;
    }

    private void compare(Call call, boolean full, Map<Call, Integer> before) {
        Map<Call, Integer> after = everything();
        Call changed = null;
        for (Call question : before.keySet()) {
            int was = before.get(question);
            Integer now = after.get(question);
            boolean allowed = now != null && full && mayChange(question, call, now > was);
            if (now == null || now != was && !allowed) {
                changed = question;
            }
        }
        boolean same = changed == null && after.size() == before.size();
        due.yes(where(call) + " should change nothing, but changes: " + changed, same);
    }

    /** A put or delete that is FULL may have got locks, for which others wait; a resume ends a wait. */
    private static boolean mayChange(Call question, Call call, boolean rises) {
        boolean ofResume = call.name().equals("resume");
        if (!ofResume && !call.name().equals("put") && !call.name().equals("delete")) {
            return false;
        }
        return switch (question.name()) {
            case "lock" -> question.a() == call.a() && rises;
            case "state" -> question.a() == call.a() && ofResume && !rises;
            case "waits" -> true;
            default -> false;
        };
    }

    private static int number(String text) {
        return switch (text) {
            case "NONE" -> NONE;
            case "WAIT" -> -2;
            case "VICTIM" -> -3;
            case "BUSY" -> BUSY;
            case "FULL" -> FULL;
            case "true" -> 1;
            case "false" -> 0;
            default -> Integer.parseInt(text);
        };
    }
}
