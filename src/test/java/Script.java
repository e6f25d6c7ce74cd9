/**
 * Plays a text of calls on one object. A line is a call with its arguments, "=" and the answer that
 * is due, as a number or a name (NONE, true, ..); "new F" makes the object anew; what stands behind
 * "#" says why the answer is due.
 */
final class Script {
    private final Due due;
    private final String name;
    private NestedStore store = new NestedStore(8);

    Script(Due due, String name) {
        this.due = due;
        this.name = name;
    }

    static void play(Due due, String name, String text) {
        new Script(due, name).play(text);
    }

    NestedStore store() {
        return store;
    }

    void play(String text) {
        for (String line : text.split("\n")) {
            String call = line.replaceAll("#.*", "").strip();
            if (!call.isEmpty()) {
                playLine(call);
            }
        }
    }

    private void playLine(String line) {
        String[] sides = line.split("=");
        String[] words = sides[0].strip().split(" +");
        int[] args = new int[3];
        for (int i = 1; i < words.length; i++) {
            args[i - 1] = Integer.parseInt(words[i]);
        }
        if (words[0].equals("new")) {
            store = new NestedStore(args[0]);
        } else {
            due.is(name + ": " + sides[0].strip(), answerOf(words[0], args), number(sides[1].strip()));
        }
    }

    private static int number(String text) {
        return switch (text) {
            case "NONE" -> -1;
            case "WAIT" -> -2;
            case "VICTIM" -> -3;
            case "BUSY" -> -4;
            case "FULL" -> -5;
            case "true" -> 1;
            case "false" -> 0;
            default -> Integer.parseInt(text);
        };
    }

    private int answerOf(String call, int[] args) {
        int a = args[0];
        int b = args[1];
        return switch (call) {
            case "begin" -> store.begin(a);
            case "get" -> store.get(a, b);
            case "put" -> store.put(a, b, args[2]);
            case "delete" -> store.delete(a, b);
            case "scan" -> store.scan(a, b, args[2]);
            case "resume" -> store.resume(a);
            case "value" -> store.value();
            case "commit" -> store.commit(a);
            case "abort" -> store.abort(a);
            case "save" -> store.save(a);
            case "rollback" -> store.rollback(a, b);
            case "write" -> store.write(a) ? 1 : 0;
            case "archive" -> store.archive();
            case "crash" -> store.crash(a);
            case "state" -> store.state(a);
            case "parent" -> store.parent(a);
            case "lock" -> store.lock(a, b);
            case "waits" -> store.waits(a, b) ? 1 : 0;
            case "entry" -> store.entry(a, b);
            case "log" -> store.log(a);
            case "key" -> store.key(a, b);
            case "frame" -> store.frame(a);
            case "page" -> store.page(a);
            default -> throw new IllegalArgumentException(call);
        };
    }
}
