/** One call of the face, with its arguments; those that it does not take are 0. */
record Call(String name, int a, int b, int c) {

    static Call of(String text) {
        String[] words = text.strip().split(" +");
        int[] args = new int[3];
        for (int i = 1; i < words.length; i++) {
            args[i - 1] = Integer.parseInt(words[i]);
        }
        return new Call(words[0], args[0], args[1], args[2]);
    }

    static Call of(String name, int... args) {
        int[] three = java.util.Arrays.copyOf(args, 3);
        return new Call(name, three[0], three[1], three[2]);
    }

    /** Whether it is a mere question, of which the document tells no change. */
    boolean onlyAsks() {
        return switch (name) {
            case "value", "state", "parent", "lock", "waits", "entry", "log", "key", "frame", "page" -> true;
            default -> false;
        };
    }

    int on(NestedStore store) {
        return switch (name) {
            case "begin" -> store.begin(a);
            case "get" -> store.get(a, b);
            case "put" -> store.put(a, b, c);
            case "delete" -> store.delete(a, b);
            case "scan" -> store.scan(a, b, c);
            case "resume" -> store.resume(a);
            case "value" -> store.value();
            case "commit" -> store.commit(a);
            case "abort" -> store.abort(a);
            case "save" -> store.save(a);
            case "rollback" -> store.rollback(a, b);
            case "write" -> store.write(a) ? 1 : 0;
            case "archive" -> store.archive();
            case "crash" -> store.crash(a);
            case "state" -> store.state(a);
            case "parent" -> store.parent(a);
            case "lock" -> store.lock(a, b);
            case "waits" -> store.waits(a, b) ? 1 : 0;
            case "entry" -> store.entry(a, b);
            case "log" -> store.log(a);
            case "key" -> store.key(a, b);
            case "frame" -> store.frame(a);
            case "page" -> store.page(a);
            default -> throw new IllegalArgumentException(name);
        };
    }

    int on(PlainModel model) {
        return switch (name) {
            case "begin" -> model.begin(a);
            case "get" -> model.get(a, b);
            case "put" -> model.put(a, b, c);
            case "delete" -> model.delete(a, b);
            case "scan" -> model.scan(a, b, c);
            case "resume" -> model.resume(a);
            case "value" -> model.value();
            case "commit" -> model.commit(a);
            case "abort" -> model.abort(a);
            case "save" -> model.save(a);
            case "rollback" -> model.rollback(a, b);
            case "write" -> model.write(a) ? 1 : 0;
            case "archive" -> model.archive();
            case "crash" -> model.crash(a);
            case "state" -> model.state(a);
            case "parent" -> model.parent(a);
            case "lock" -> model.lock(a, b);
            case "waits" -> model.waits(a, b) ? 1 : 0;
            case "entry" -> model.entry(a, b);
            case "log" -> model.log(a);
            case "key" -> model.key(a, b);
            case "frame" -> model.frame(a);
            case "page" -> model.page(a);
            default -> throw new IllegalArgumentException(name);
        };
    }

    @Override
    public String toString() {
        int taken = switch (name) {
            case "value", "archive" -> 0;
            case "put", "scan" -> 3;
            case "get", "delete", "rollback", "lock", "waits", "entry", "key" -> 2;
            default -> 1;
        };
        int[] args = {a, b, c};
        StringBuilder text = new StringBuilder(name);
        for (int i = 0; i < taken; i++) {
            text.append(' ').append(args[i]);
        }
        return text.toString();
    }
}
