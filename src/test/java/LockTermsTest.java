import java.util.ArrayList;
import java.util.List;

/** The sentences of Terms on transactions, locks and requests, each at its limits. */
final class LockTermsTest {
    private static final Due DUE = new Due("LockTermsTest");
    private static final int[][] SETS_OF_KEYS = {
        {}, {0}, {31}, {0, 31}, {30, 31}, {0, 1}, {5, 6, 20}, {3, 4, 15, 16, 28}
    };

    public static void main(String[] args) {
        atMostSixty(false);
        atMostSixty(true);
        sixtyForEver();
        depth();
        top();
        live();
        items();
        mayGet();
        for (int[] keys : SETS_OF_KEYS) {
            for (int k = 0; k < 32; k++) {
                locksOfRequests(keys, k);
            }
            locksOfScans(keys);
        }
        allKeysAndTheEnd();
        strongerStays();
        lockedInOrder();
        scanKeepsWhatItGot();
        answersOfRequests();
        scanTouches();
        sumWraps();
        valueOfWaiting();
        DUE.end();
    }

    /** "TRANSACTIONS have numbers 0, 1, .. (at most 60 for ever)" */
    private static void atMostSixty(boolean children) {
        Script script = new Script(DUE, children ? "60 with children" : "60 tops");
        for (int t = 0; t < 60; t++) {
            script.play(-1, "state", t);
            script.play(t, "begin", children && t % 4 != 0 ? t - 1 : -1);
            script.play(1, "state", t);
        }
        script.play("""
            begin -1 = NONE
            begin 0 = NONE
            begin 58 = NONE
            state 60 = NONE
            parent 60 = NONE
            lock 60 0 = NONE
            log 0 = 60
            log 4 = 60
            get 59 0 = 0
            """);
    }

    private static void sixtyForEver() {
        Script script = new Script(DUE, "60 for ever");
        for (int t = 0; t < 20; t++) {
            script.play(t, "begin", -1);
            script.play(0, "abort", t);
        }
        script.play("archive = 0");
        for (int t = 20; t < 40; t++) {
            script.play(t, "begin", -1);
            script.play(0, "commit", t);
        }
        for (int t = 40; t < 59; t++) {
            script.play(t, "begin", -1);
        }
        script.play("""
            crash 0 = 0      # the BEGINs are lost, the numbers are not
            begin -1 = 59
            begin -1 = NONE  # there were 60, though one is live
            begin 59 = NONE
            commit 59 = 0
            begin -1 = NONE
            archive = 0
            begin -1 = NONE
            state 59 = 3
            state 40 = 4
            """);
    }

    /** "its DEPTH is 1 without one, else 1 more than that of its parent" */
    private static void depth() {
        Script.play(DUE, "depth", """
            begin -1 = 0     # depth 1
            begin 0 = 1      # 2
            begin 1 = 2      # 3
            begin 2 = 3      # 4
            begin 3 = NONE
            begin 2 = 4      # 4 again
            begin 4 = NONE
            commit 3 = 0
            commit 4 = 0
            begin 2 = 5
            begin -1 = 6     # 1 again
            begin 6 = 7
            begin 7 = 8
            begin 8 = 9
            begin 9 = NONE
            """);
    }

    /** "its TOP is itself without a parent, else that of its parent" */
    private static void top() {
        Script.play(DUE, "top", """
            begin -1 = 0
            begin -1 = 1
            begin 1 = 2
            begin 2 = 3
            begin 3 = 4      # its top is 1
            put 4 0 1 = 0    # LSN 6
            commit 4 = 0
            commit 3 = 0
            commit 2 = 0
            log 1 = 0        # FLUSHED by none of these
            log 3 = 1
            commit 0 = 0
            log 1 = 10
            crash 0 = 1
            entry 11 0 = 3
            entry 11 1 = 1   # by its top
            entry 11 3 = 6
            state 0 = 3
            state 1 = 4
            state 4 = 4
            begin -1 = 5
            put 5 0 1 = 0    # LSN 13
            begin -1 = 6
            commit 6 = 0
            crash 0 = 1
            entry 16 1 = 5   # itself
            """);
    }

    /** "STATES: 1 ACTIVE, 2 WAITING (these two are LIVE), 3 COMMITTED, 4 ABORTED" */
    private static void live() {
        Script.play(DUE, "live", """
            log 4 = 0
            begin -1 = 0
            log 4 = 1
            begin -1 = 1
            begin 1 = 2
            log 4 = 3
            put 0 0 1 = 0
            get 2 0 = WAIT
            state 2 = 2
            log 4 = 3
            get 1 4 = BUSY   # a waiting child is live
            commit 1 = BUSY
            archive = NONE
            commit 0 = 0
            state 0 = 3
            log 4 = 2
            abort 2 = 0
            state 2 = 4
            log 4 = 1
            get 1 4 = 0      # not busy any more
            commit 1 = 0
            log 4 = 0
            archive = 1
            """);
    }

    /** "LOCKS are on ITEMS: the keys and 32, the END." */
    private static void items() {
        Script script = new Script(DUE, "items");
        script.play("begin -1 = 0");
        for (int k = 0; k < 32; k++) {
            script.play(0, "put", 0, k, k);
        }
        script.play(-1, "lock", 0, -1);
        for (int item = 0; item <= 32; item++) {
            script.play(2, "lock", 0, item);
        }
        script.play(-1, "lock", 0, 33);
        script.play(-1, "lock", 1, 0);
        script.play(-1, "lock", -1, 0);
        script.play("begin -1 = 1");
        for (int item = 0; item <= 32; item++) {
            script.play(0, "lock", 1, item);
        }
    }

    /** "T MAY GET shared when .. exclusive when .. are T or ancestors of T" */
    private static void mayGet() {
        mayGet("self", "begin -1 = 1\n", 1, 1, true);
        mayGet("parent", "begin -1 = 1\n", 1, 2, true);
        mayGet("grandparent", "begin -1 = 1\n", 1, 3, true);
        mayGet("the greatest depth", "begin -1 = 1\n", 1, 4, true);
        mayGet("another top", "begin -1 = 1\nbegin -1 = 2\n", 1, 2, false);
        mayGet("sibling", "begin -1 = 1\nbegin 1 = 2\nbegin 1 = 3\n", 2, 3, false);
        mayGet("younger sibling", "begin -1 = 1\nbegin 1 = 2\nbegin 1 = 3\n", 3, 2, false);
        mayGet("uncle", "begin -1 = 1\nbegin 1 = 2\nbegin 1 = 3\nbegin 3 = 4\n", 2, 4, false);
        mayGet("nephew", "begin -1 = 1\nbegin 1 = 2\nbegin 1 = 3\nbegin 3 = 4\n", 4, 2, false);
        mayGet("child of another", "begin -1 = 1\nbegin 1 = 2\nbegin -1 = 3\n", 2, 3, false);
    }

    /** The holder asks first; then its descendants up to the asker are begun, if it has none. */
    private static void mayGet(String who, String begins, int holder, int asker, boolean related) {
        String[] modes = {"shared", "exclusive"};
        for (int held = 1; held <= 2; held++) {
            for (int asked = 1; asked <= 2; asked++) {
                Script script = new Script(DUE, modes[asked - 1] + " where " + who + " has "
                        + modes[held - 1]);
                script.play("begin -1 = 0\nput 0 8 1 = 0\ncommit 0 = 0\n" + begins);
                script.play((held == 1 ? "get " + holder + " 8 = 1" : "put " + holder + " 8 5 = 0"));
                for (int t = holder + 1; related && t <= asker; t++) {
                    script.play(t, "begin", t - 1);
                }
                boolean may = related || held == 1 && asked == 1;
                String call = asked == 1 ? "get " + asker + " 8" : "put " + asker + " 8 6";
                script.play(call + " = " + (!may ? "WAIT" : asked == 1 ? "1" : "0"));
                int own = holder == asker ? Math.max(held, asked) : asked;
                script.play(may ? own : 0, "lock", asker, 8);
                script.play(may ? 0 : 1, "waits", asker, holder);
                script.play(holder == asker ? own : held, "lock", holder, 8);
            }
        }
    }

    private static Script withKeys(int[] keys, String name) {
        Script script = new Script(DUE, name + " with the keys " + java.util.Arrays.toString(keys));
        script.play("begin -1 = 0");
        for (int k : keys) {
            script.play(0, "put", 0, k, k + 100);
        }
        script.play("commit 0 = 0\nbegin -1 = 1");
        return script;
    }

    private static boolean isIn(int[] keys, int k) {
        for (int each : keys) {
            if (each == k) {
                return true;
            }
        }
        return false;
    }

    /** "the least key above it that is there, or 32"; the keys of each set rise. */
    private static int next(int[] keys, int k) {
        for (int each : keys) {
            if (each > k) {
                return each;
            }
        }
        return 32;
    }

    /** All locks of 1: exclusive on some items, shared on others, and none beside. */
    private static void hasLocks(Script script, List<Integer> exclusive, List<Integer> shared) {
        for (int item = 0; item <= 32; item++) {
            int due = exclusive.contains(item) ? 2 : shared.contains(item) ? 1 : 0;
            DUE.is("lock 1 " + item, script.ask("lock", 1, item), due);
        }
    }

    /** "GET k: .. PUT k: .. DELETE k: .." */
    private static void locksOfRequests(int[] keys, int k) {
        boolean there = isIn(keys, k);
        int next = next(keys, k);
        Script get = withKeys(keys, "get");
        get.play(there ? 1 : 0, "get", 1, k);
        hasLocks(get, List.of(), List.of(there ? k : next));
        Script put = withKeys(keys, "put");
        put.play(0, "put", 1, k, 1);
        hasLocks(put, there ? List.of(k) : List.of(k, next), List.of());
        Script delete = withKeys(keys, "delete");
        delete.play(there ? 1 : 0, "delete", 1, k);
        hasLocks(delete, there ? List.of(k, next) : List.of(), there ? List.of() : List.of(next));
    }

    /** "the keys there from low to high, rising, then the next of high, shared" */
    private static void locksOfScans(int[] keys) {
        int[] limits = {0, 1, 3, 4, 5, 6, 15, 16, 20, 27, 28, 30, 31};
        for (int low : limits) {
            for (int high : limits) {
                if (low <= high) {
                    locksOfScan(keys, low, high);
                }
            }
        }
    }

    private static void locksOfScan(int[] keys, int low, int high) {
        List<Integer> shared = new ArrayList<>();
        int sum = 0;
        for (int k : keys) {
            if (k >= low && k <= high) {
                shared.add(k);
                sum += k + 100;
            }
        }
        Script script = withKeys(keys, "scan");
        script.play(shared.size(), "scan", 1, low, high);
        script.play(sum, "value");
        shared.add(next(keys, high));
        hasLocks(script, List.of(), shared);
    }

    /** The most locks that one request can ask for. */
    private static void allKeysAndTheEnd() {
        Script script = new Script(DUE, "scan of all keys");
        script.play("begin -1 = 0");
        for (int k = 0; k < 32; k++) {
            script.play(0, "put", 0, k, 1 << k);
        }
        script.play("""
            commit 0 = 0
            begin -1 = 1
            begin -1 = 2
            begin -1 = 3
            get 2 31 = 1
            delete 3 31 = WAIT # it has the END, but not 31
            lock 3 32 = 2
            lock 3 31 = 0
            scan 1 0 31 = WAIT # for the END; 3 waits for 31, which 1 has got
            state 3 = 4
            waits 1 2 = false
            waits 1 3 = false
            lock 1 32 = 0
            """);
        for (int k = 0; k < 32; k++) {
            script.play(1, "lock", 1, k);
        }
        script.play("""
            resume 1 = 32
            value = -1
            lock 1 32 = 1
            frame 0 = 15
            frame 7 = 1
            scan 1 1 31 = 31
            value = -2
            scan 1 0 30 = 31
            value = 2147483647
            """);
    }

    /** "each one that T does not have so (or stronger) already" */
    private static void strongerStays() {
        Script.play(DUE, "the stronger stays", """
            begin -1 = 0
            put 0 8 1 = 0
            lock 0 8 = 2
            lock 0 32 = 2
            get 0 8 = 1      # shared is asked for, exclusive is there
            get 0 9 = 0
            scan 0 0 31 = 1
            delete 0 20 = 0
            lock 0 8 = 2
            lock 0 32 = 2
            begin 0 = 1
            get 1 8 = 1      # the child gets its own
            get 1 9 = 0
            lock 1 8 = 1
            lock 1 32 = 1
            put 1 8 2 = 0
            lock 1 8 = 2     # from shared to exclusive
            lock 1 32 = 1
            put 1 9 2 = 0
            lock 1 32 = 2
            lock 0 8 = 2
            """);
    }

    /** "gets its locks in the order said" and "keeps the locks that it has got" */
    private static void lockedInOrder() {
        String two = """
            new 8
            begin -1 = 0
            put 0 8 1 = 0
            put 0 9 1 = 0
            commit 0 = 0
            begin -1 = 1
            begin -1 = 2
            """;
        Script.play(DUE, "delete: the next, then the key", two + """
            get 1 8 = 1
            delete 2 8 = WAIT
            lock 2 9 = 2     # got
            lock 2 8 = 0     # not got
            waits 2 1 = true
            """);
        Script.play(DUE, "delete: not the next", two + """
            get 1 9 = 1
            delete 2 8 = WAIT
            lock 2 9 = 0
            lock 2 8 = 0     # not asked for yet
            waits 2 1 = true
            commit 1 = 0
            resume 2 = 1
            lock 2 9 = 2
            lock 2 8 = 2
            """);
        Script.play(DUE, "put: not the next", two + """
            get 1 8 = 1
            put 2 7 1 = WAIT
            lock 2 8 = 0
            lock 2 7 = 0
            commit 1 = 0
            resume 2 = 0
            lock 2 8 = 2
            lock 2 7 = 2
            """);
        Script.play(DUE, "put at the END", two + """
            get 1 31 = 0
            put 2 10 1 = WAIT
            lock 2 32 = 0
            put 2 8 1 = NONE # it waits
            """);
    }

    private static void scanKeepsWhatItGot() {
        String three = """
            new 8
            begin -1 = 0
            put 0 4 1 = 0
            put 0 8 1 = 0
            put 0 12 1 = 0
            commit 0 = 0
            begin -1 = 1
            begin -1 = 2
            """;
        int[] keys = {4, 8, 12};
        for (int held = 0; held < 3; held++) {
            Script script = new Script(DUE, "scan up to " + keys[held]);
            script.play(three);
            script.play(0, "put", 1, keys[held], 2);
            script.play("scan 2 0 31 = WAIT");
            for (int i = 0; i < 3; i++) {
                script.play(i < held ? 1 : 0, "lock", 2, keys[i]);
            }
            script.play("lock 2 32 = 0\nwaits 2 1 = true\nframe 1 = " + (held == 2 ? 5 : 7));
        }
        Script.play(DUE, "scan up to the next of high", three + """
            put 1 31 2 = 0   # END and 31
            scan 2 0 30 = WAIT # 31 is the next of 30
            lock 2 4 = 1
            lock 2 8 = 1
            lock 2 12 = 1
            lock 2 31 = 0
            commit 1 = 0
            resume 2 = 3
            lock 2 31 = 1
            lock 2 32 = 0
            """);
        Script.play(DUE, "scan up to the END", three + """
            get 1 31 = 0     # END, shared
            scan 2 12 31 = 1
            lock 2 32 = 1
            """);
    }

    /** "answers 1 if the key is there, else 0; VALUE becomes its value, or 0 .." */
    private static void answersOfRequests() {
        Script.play(DUE, "answers of requests", """
            new 1
            begin -1 = 0
            put 0 5 -1 = 0   # 0, be it there or not
            put 0 5 -1 = 0
            get 0 5 = 1
            value = -1
            get 0 6 = 0
            value = 0
            get 0 5 = 1
            delete 0 6 = 0   # absent
            value = -1       # a DELETE leaves it
            delete 0 5 = 1
            value = -1
            delete 0 5 = 0   # absent now
            put 0 0 0 = 0
            value = -1
            get 0 0 = 1      # there, with the value 0
            value = 0
            scan 0 1 31 = 0
            value = 0
            log 0 = 5
            """);
    }

    /** "SCAN touches the pages low / 4 .. high / 4, rising" */
    private static void scanTouches() {
        for (int low = 0; low < 32; low++) {
            for (int high = low; high < 32; high++) {
                NestedStore store = new NestedStore(8);
                store.begin(-1);
                DUE.is("scan 0 " + low + " " + high, store.scan(0, low, high), 0);
                int pages = high / 4 - low / 4 + 1;
                for (int i = 0; i < 8; i++) {
                    int due = i < pages ? (high / 4 - i) * 2 : -1;
                    DUE.is("frame " + i + " after scan " + low + " " + high, store.frame(i), due);
                }
            }
        }
    }

    /** "VALUE becomes the sum (which wraps) of their values" */
    private static void sumWraps() {
        int most = Integer.MAX_VALUE;
        int least = Integer.MIN_VALUE;
        sumOf(most - 1, 1, most);
        sumOf(most, 0, most);
        sumOf(most, 1, least);
        sumOf(least + 1, -1, least);
        sumOf(least, 0, least);
        sumOf(least, -1, most);
        sumOf(most, most, -2);
        sumOf(least, least, 0);
        sumOf(most, least, -1);
    }

    private static void sumOf(int one, int other, int sum) {
        Script script = new Script(DUE, "sum of " + one + " and " + other);
        script.play(0, "begin", -1);
        script.play(0, "put", 0, 0, one);
        script.play(0, "put", 0, 31, other);
        script.play(2, "scan", 0, 0, 31);
        script.play(sum, "value");
        script.play(1, "scan", 0, 0, 30);
        script.play(one, "value");
        script.play(1, "scan", 0, 1, 31);
        script.play(other, "value");
    }

    /** A request that waits touches nothing and leaves VALUE; what it asked counts when it is made. */
    private static void valueOfWaiting() {
        Script.play(DUE, "value of waiting ones", """
            begin -1 = 0
            put 0 5 50 = 0
            put 0 31 1 = 0
            get 0 5 = 1
            begin -1 = 1
            begin -1 = 2
            get 1 31 = WAIT
            scan 2 0 31 = WAIT
            value = 50
            frame 0 = 3
            frame 1 = 15
            put 0 5 51 = 0
            commit 0 = 0
            resume 2 = 2
            value = 52
            resume 1 = 1
            value = 1
            """);
    }
}
