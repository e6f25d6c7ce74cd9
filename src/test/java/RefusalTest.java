import java.util.function.IntSupplier;

/** What is refused changes nothing, and no call throws, whatever its arguments are. */
final class RefusalTest {
    private static final Due DUE = new Due("RefusalTest");
    private static final int[] ODD = {
        Integer.MIN_VALUE, Integer.MIN_VALUE + 1, -65, -64, -33, -5, -2, -1, 0, 1, 2, 3, 4, 5, 7, 8,
        31, 32, 33, 59, 60, 61, 63, 64, 65, 300, 301, Integer.MAX_VALUE - 1, Integer.MAX_VALUE
    };

    private final NestedStore store;

    private RefusalTest(NestedStore store) {
        this.store = store;
    }

    public static void main(String[] args) {
        new RefusalTest(new NestedStore(3)).refuseAll();
        new RefusalTest(mixed()).refuseAll();
        new RefusalTest(crashed()).refuseAll();
        for (int seed = 0; seed < 8; seed++) {
            new RefusalTest(mixed()).callWildly(seed);
        }
        DUE.end();
    }

    /** 0 is active, has a live child 1 that is active; 2 waits; 3 is committed, 4 aborted. */
    private static NestedStore mixed() {
        NestedStore store = new NestedStore(2);
        store.begin(-1);
        store.put(0, 4, 40);
        store.begin(0);
        store.begin(-1);
        store.get(2, 4);
        store.begin(-1);
        store.commit(3);
        store.begin(-1);
        store.abort(4);
        store.put(1, 8, 80);
        return store;
    }

    private static NestedStore crashed() {
        NestedStore store = mixed();
        store.crash(store.log(0) - store.log(1));
        return store;
    }

    private String seen() {
        StringBuilder all = new StringBuilder();
        all.append(store.value());
        for (int i = 0; i <= 4; i++) {
            all.append(' ').append(store.log(i));
        }
        for (int k = 0; k < 32; k++) {
            for (int what = 0; what < 4; what++) {
                all.append(' ').append(store.key(k, what));
            }
        }
        for (int p = 0; p < 8; p++) {
            all.append(' ').append(store.frame(p)).append(' ').append(store.page(p));
        }
        for (int t = 0; t < 60; t++) {
            all.append(' ').append(store.state(t));
            for (int item = 0; item <= 32; item++) {
                all.append(store.lock(t, item));
            }
            for (int u = 0; u < 60; u++) {
                all.append(store.waits(t, u) ? 'w' : '.');
            }
        }
        return all.toString();
    }

    private void refused(String call, IntSupplier asked) {
        String before = seen();
        int answer = asked.getAsInt();
        boolean refusal = answer == NestedStore.NONE || answer == NestedStore.BUSY;
        DUE.yes(call + " is refused", refusal);
        DUE.yes(call + " changes nothing", seen().equals(before));
    }

    private void refuseAll() {
        for (int t : ODD) {
            if (t != -1 && store.state(t) != 1) {
                refused("begin " + t, () -> store.begin(t));
            }
            if (store.state(t) != 1 || t == 0) {
                refuseActing(t);
            }
            if (store.state(t) != 2) {
                refused("resume " + t, () -> store.resume(t));
            }
            if (store.state(t) != 1 && store.state(t) != 2) {
                refused("abort " + t, () -> store.abort(t));
            }
            if (t < 0 || t > store.log(0) - store.log(1)) {
                refused("crash " + t, () -> store.crash(t));
            }
            if (t < 0 || t > 7) {
                refused("write " + t, () -> store.write(t) ? 1 : -1);
            }
        }
        refuseWrongKeys();
    }

    private void refuseActing(int t) {
        refused("get " + t, () -> store.get(t, 4));
        refused("put " + t, () -> store.put(t, 4, 1));
        refused("delete " + t, () -> store.delete(t, 4));
        refused("scan " + t, () -> store.scan(t, 0, 31));
        refused("commit " + t, () -> store.commit(t));
        refused("save " + t, () -> store.save(t));
        refused("rollback " + t, () -> store.rollback(t, store.log(0)));
    }

    private void refuseWrongKeys() {
        for (int k : ODD) {
            if (k < 0 || k > 31) {
                refused("get 1 " + k, () -> store.get(1, k));
                refused("put 1 " + k, () -> store.put(1, k, 1));
                refused("delete 1 " + k, () -> store.delete(1, k));
                refused("scan 1 0 " + k, () -> store.scan(1, 0, k));
                refused("scan 1 31 " + k, () -> store.scan(1, 31, k));
                refused("scan 1 .. 31 " + k, () -> store.scan(1, k, 31));
            }
        }
    }

    /** More than 512 calls: what the later ones answer is free, but none may throw. */
    private void callWildly(int seed) {
        java.util.Random random = new java.util.Random(seed);
        for (int i = 0; i < 4000; i++) {
            int a = some(random);
            int b = some(random);
            int c = some(random);
            switch (random.nextInt(23)) {
                case 0, 1 -> store.begin(a);
                case 2 -> store.get(a, b);
                case 3, 4, 5 -> store.put(a, b, c);
                case 6 -> store.delete(a, b);
                case 7 -> store.scan(a, b, c);
                case 8, 9 -> store.resume(a);
                case 10 -> store.commit(a);
                case 11 -> store.abort(a);
                case 12 -> store.save(a);
                case 13 -> store.rollback(a, random.nextBoolean() ? store.log(0) - 3 : b);
                case 14 -> store.write(a);
                case 15 -> store.archive();
                case 16 -> store.crash(random.nextInt(9) == 0 ? 0 : a);
                case 17 -> store.state(a);
                case 18 -> store.lock(a, b);
                case 19 -> store.waits(a, b);
                case 20 -> store.entry(a, b);
                case 21 -> store.key(a, b);
                default -> store.frame(a + store.page(b) + store.log(c) + store.parent(a));
            }
            int used = store.log(2) + store.log(3) + store.log(4);
            DUE.yes("the room is never above 300", used <= 300);
            DUE.yes("FLUSHED is not above the last LSN", store.log(1) <= store.log(0));
        }
    }

    private static int some(java.util.Random random) {
        int kind = random.nextInt(8);
        if (kind == 0) {
            return random.nextInt();
        }
        return kind < 3 ? ODD[random.nextInt(ODD.length)] : random.nextInt(33) - 1;
    }
}
