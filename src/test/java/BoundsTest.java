/** Promises 1 to 13, each at its limits; that a refused call changes nothing Script looks at. */
final class BoundsTest {
    private static final Due DUE = new Due("BoundsTest");
    private static final int LOWEST = Integer.MIN_VALUE;
    private static final int HIGHEST = Integer.MAX_VALUE;

    /** 0 COMMITTED, 1 ABORTED, 2 WAITING for 3, 3 ACTIVE, 4 ACTIVE with the live child 5; no 6. */
    private static final String OF_EACH_STATE = """
        new 4
        begin -1 = 0
        put 0 0 1 = 0
        put 0 9 1 = 0
        commit 0 = 0
        begin -1 = 1
        abort 1 = 0
        begin -1 = 2
        begin -1 = 3
        put 3 0 2 = 0
        get 2 0 = WAIT
        begin -1 = 4
        begin 4 = 5
        """;
    /** No such transaction, or none that is ACTIVE. */
    private static final int[] NOT_ACTIVE = {
        LOWEST, LOWEST + 59, -64, -61, -2, -1, 0, 1, 2, 6, 7, 59, 60, 61, 63, 64, 67, HIGHEST
    };

    public static void main(String[] args) {
        frames();
        begin();
        requestsNotActive();
        requestsBusy();
        keysOfRequests();
        limitsOfScan();
        resume();
        resumeIsANewRequest();
        value();
        commit();
        abort();
        save();
        rollbackOfWhom();
        rollbackPoints();
        rollbackAtThePoint();
        write();
        lastOf512();
        DUE.end();
    }

    private static Script ofEachState(String name) {
        Script script = new Script(DUE, name);
        script.play(OF_EACH_STATE);
        return script;
    }

    /** 1: "frames is F, but 1 if it is less than 1, 8 if it is more than 8" */
    private static void frames() {
        int[] asked = {LOWEST, -8, -1, 0, 1, 2, 3, 4, 5, 6, 7, 8, 9, 10, 16, HIGHEST};
        int[] made = {1, 1, 1, 1, 1, 2, 3, 4, 5, 6, 7, 8, 8, 8, 8, 8};
        for (int i = 0; i < asked.length; i++) {
            Script script = new Script(DUE, "1 frames " + asked[i]);
            script.make(asked[i]);
            script.play("value = 0\nlog 0 = 0\nlog 2 = 0\nlog 4 = 0\nstate 0 = NONE\nbegin -1 = 0");
            script.play("scan 0 0 31 = 0");
            for (int place = 0; place < 8; place++) {
                script.play(place < made[i] ? 14 - 2 * place : -1, "frame", place);
            }
            script.play("frame 8 = NONE");
        }
    }

    /** 2: "parent is neither -1 nor an ACTIVE transaction of a depth below 4, or there were 60" */
    private static void begin() {
        for (int parent : NOT_ACTIVE) {
            if (parent != -1) {
                ofEachState("2 begin").play(-1, "begin", parent);
            }
        }
        for (int parent : new int[] {-1, 3, 4, 5}) {
            Script script = ofEachState("2 begin");
            script.play(6, "begin", parent);
            script.play(parent, "parent", 6);
            script.play(1, "state", 6);
            script.play(1, "entry", 12, 0);
            script.play(6, "entry", 12, 1);
            script.play(parent, "entry", 12, 2);
        }
        int[] parents = {-1, 0, 1, 2};
        Script script = new Script(DUE, "2 depth");
        for (int t = 0; t < 4; t++) {
            script.play(t, "begin", parents[t]);
        }
        script.play("begin 3 = NONE\nbegin 2 = 4\nbegin 1 = 5\nbegin 5 = 6\nbegin 6 = NONE");
    }

    /** 3 to 6: "NONE: t is not ACTIVE" */
    private static void requestsNotActive() {
        Script script = ofEachState("3 .. 6 not ACTIVE");
        for (int t : NOT_ACTIVE) {
            script.play(-1, "get", t, 9);
            script.play(-1, "put", t, 9, 9);
            script.play(-1, "delete", t, 9);
            script.play(-1, "scan", t, 9, 9);
        }
        script.play("get 3 9 = 1\nget 5 9 = 1\nstate 2 = 2");
    }

    /** 3 to 6: "BUSY"; and what is NONE is told before it. */
    private static void requestsBusy() {
        ofEachState("3 .. 6 BUSY").play("""
            get 4 9 = BUSY
            put 4 9 9 = BUSY
            delete 4 9 = BUSY
            scan 4 0 31 = BUSY
            get 4 32 = NONE
            put 4 -1 9 = NONE
            delete 4 32 = NONE
            scan 4 3 2 = NONE
            commit 5 = 0
            get 4 9 = 1      # the child is not live any more
            begin 4 = 6
            get 4 9 = BUSY
            put 6 9 9 = 0
            abort 6 = 1
            put 4 9 9 = 0
            begin 4 = 7
            begin 7 = 8
            get 7 9 = BUSY
            get 4 9 = BUSY
            commit 8 = 0
            get 4 9 = BUSY   # 7 is live
            get 7 9 = 1
            """);
    }

    /** 3 to 5: "k is not 0 .. 31" */
    private static void keysOfRequests() {
        Script script = ofEachState("3 .. 5 keys");
        for (int k : new int[] {LOWEST, -33, -32, -2, -1, 32, 33, 63, 64, HIGHEST}) {
            script.play(-1, "get", 3, k);
            script.play(-1, "put", 3, k, 5);
            script.play(-1, "delete", 3, k);
        }
        script.play("""
            get 3 0 = 1
            get 3 31 = 0
            put 3 0 5 = 0
            put 3 31 5 = 0
            delete 3 0 = 1
            delete 3 31 = 1
            delete 3 31 = 0
            put 3 31 2147483647 = 0
            key 31 1 = 2147483647
            put 3 31 -2147483648 = 0
            key 31 1 = -2147483648
            """);
    }

    /** 6: "NONE also when low or high is not 0 .. 31, or low is above high" */
    private static void limitsOfScan() {
        int[] limits = {LOWEST, -32, -1, 0, 1, 8, 9, 10, 30, 31, 32, 33, HIGHEST};
        Script script = new Script(DUE, "6 limits");
        script.play("begin -1 = 0\nput 0 0 1 = 0\nput 0 9 2 = 0\nput 0 31 4 = 0\n");
        for (int low : limits) {
            for (int high : limits) {
                boolean right = low >= 0 && low <= high && high <= 31;
                int count = (low == 0 ? 1 : 0) + (low <= 9 && high >= 9 ? 1 : 0) + (high == 31 ? 1 : 0);
                int sum = (low == 0 ? 1 : 0) + (low <= 9 && high >= 9 ? 2 : 0) + (high == 31 ? 4 : 0);
                script.play(right ? count : -1, "scan", 0, low, high);
                if (right) {
                    script.play(sum, "value");
                }
            }
        }
    }

    /** 7: "NONE when t is not WAITING" */
    private static void resume() {
        Script script = ofEachState("7 not WAITING");
        for (int t : NOT_ACTIVE) {
            if (t != 2) {
                script.play(-1, "resume", t);
            }
        }
        script.play("""
            resume 3 = NONE
            resume 4 = NONE
            resume 5 = NONE
            resume 2 = WAIT
            resume 2 = WAIT
            commit 3 = 0
            resume 2 = 1
            resume 2 = NONE
            """);
    }

    /** 7: "The request for which t waits is made again, as a new one." */
    private static void resumeIsANewRequest() {
        Script.play(DUE, "7 a new request", """
            begin -1 = 0
            put 0 8 1 = 0
            put 0 12 1 = 0
            commit 0 = 0
            begin -1 = 1
            begin -1 = 2
            put 1 12 5 = 0
            scan 2 4 15 = WAIT
            lock 2 8 = 1
            put 1 10 6 = 0   # a key more than there was; its next is 12
            put 1 31 7 = 0
            commit 1 = 0
            resume 2 = 3
            value = 12       # 1, 6 and 5
            lock 2 10 = 1
            lock 2 12 = 1
            lock 2 31 = 1
            lock 2 32 = 0
            begin -1 = 3
            put 3 20 -5 = WAIT
            get 3 20 = NONE
            put 3 20 6 = NONE
            put 3 21 -5 = NONE
            commit 2 = 0
            resume 3 = 0
            key 20 1 = -5    # with the value of the first call
            key 21 0 = 0
            begin -1 = 4
            scan 4 15 25 = WAIT
            scan 4 20 20 = NONE
            scan 4 0 31 = NONE
            put 3 16 9 = 0
            put 3 26 8 = 0
            commit 3 = 0
            resume 4 = 2
            value = 4        # of 16 and 20
            """);
    }

    /** 8: "VALUE, of the latest GET or SCAN of all that was answered 0 or more" */
    private static void value() {
        Script.play(DUE, "8 value", """
            value = 0
            begin -1 = 0
            put 0 0 7 = 0
            put 0 1 8 = 0
            value = 0
            get 0 0 = 1
            value = 7
            get 0 5 = 0      # answered 0
            value = 0
            scan 0 0 1 = 2
            value = 15
            scan 0 8 9 = 0   # answered 0
            value = 0
            get 0 1 = 1
            get 0 -1 = NONE
            get 1 0 = NONE
            scan 0 1 0 = NONE
            delete 0 5 = 0
            delete 0 1 = 1
            put 0 1 9 = 0
            value = 8
            begin 0 = 1
            get 0 0 = BUSY
            scan 0 0 31 = BUSY
            value = 8
            begin -1 = 2
            get 2 0 = WAIT
            scan 1 0 0 = 1
            value = 7
            resume 2 = WAIT
            value = 7
            abort 1 = 0
            abort 0 = 4
            value = 7
            resume 2 = 0
            value = 0
            """);
        Script.play(DUE, "8 value of a victim", """
            begin -1 = 0
            put 0 0 7 = 0
            put 0 1 8 = 0
            commit 0 = 0
            begin -1 = 1
            begin -1 = 2
            put 1 0 5 = 0
            put 2 1 5 = 0
            get 2 1 = 1
            get 1 1 = WAIT
            get 2 0 = VICTIM
            value = 5
            crash 0 = 0
            value = 5
            archive = 1
            value = 5
            """);
    }

    /** 9: "NONE: t is not ACTIVE; BUSY." */
    private static void commit() {
        Script script = ofEachState("9 commit");
        for (int t : NOT_ACTIVE) {
            script.play(-1, "commit", t);
        }
        script.play("""
            commit 4 = BUSY
            log 1 = 4
            commit 5 = 0
            log 1 = 4        # not a top one
            commit 4 = 0
            log 1 = 13
            log 0 = 13
            commit 4 = NONE
            commit 5 = NONE
            commit 3 = 0
            lock 3 0 = 0
            log 1 = 14
            """);
    }

    /** 10: "NONE: t is not live." */
    private static void abort() {
        Script script = ofEachState("10 abort");
        for (int t : NOT_ACTIVE) {
            if (t != 2) {
                script.play(-1, "abort", t);
            }
        }
        script.play("""
            abort 2 = 0      # WAITING
            abort 2 = NONE
            abort 4 = 0      # with a live child
            state 5 = 4
            abort 5 = NONE
            abort 4 = NONE
            abort 3 = 1
            abort 3 = NONE
            log 4 = 0
            """);
    }

    /** 11: "NONE: t is not ACTIVE; BUSY." */
    private static void save() {
        Script script = ofEachState("11 save");
        for (int t : NOT_ACTIVE) {
            script.play(-1, "save", t);
        }
        script.play("""
            save 4 = BUSY
            save 3 = 11      # the last LSN, whose record is another's
            save 5 = 11
            put 3 0 3 = 0
            save 3 = 12
            save 5 = 12
            commit 5 = 0
            save 4 = 13
            log 0 = 13
            """);
    }

    /** 12: "NONE: t is not ACTIVE .. BUSY." */
    private static void rollbackOfWhom() {
        Script script = ofEachState("12 rollback");
        for (int t : NOT_ACTIVE) {
            script.play(-1, "rollback", t, 11);
        }
        script.play("""
            rollback 4 9 = NONE # told before BUSY: its BEGIN has LSN 10
            rollback 4 10 = BUSY
            rollback 4 11 = BUSY
            rollback 4 12 = NONE
            commit 5 = 0
            rollback 4 9 = NONE
            rollback 4 10 = 0
            rollback 3 12 = 0
            rollback 3 9 = 0
            rollback 3 7 = NONE
            rollback 3 8 = 1
            state 3 = 1
            lock 3 0 = 2     # locks stay
            """);
    }

    /** 12: "point is not from the LSN of its BEGIN to the last LSN" */
    private static void rollbackPoints() {
        String run = """
            new 8
            begin -1 = 0
            begin -1 = 1     # LSN 2
            put 1 8 1 = 0    # LSN 3
            put 1 8 2 = 0    # LSN 4
            begin -1 = 2     # LSN 5
            """;
        int[] points = {LOWEST, -1, 0, 1, 2, 3, 4, 5, 6, 7, HIGHEST};
        int[] answers = {-1, -1, -1, -1, 2, 1, 0, 0, -1, -1, -1};
        for (int i = 0; i < points.length; i++) {
            Script script = new Script(DUE, "12 point");
            script.play(run);
            script.play(answers[i], "rollback", 1, points[i]);
            script.play(5 + Math.max(0, answers[i]), "log", 0);
            script.play(2 - Math.max(0, answers[i]), "log", 3);
        }
        Script.play(DUE, "12 a point after archive", """
            begin -1 = 0
            commit 0 = 0
            archive = 0
            begin -1 = 1     # LSN 3
            rollback 1 2 = NONE
            rollback 1 3 = 0
            rollback 1 4 = NONE
            put 1 8 1 = 0
            rollback 1 4 = 0
            rollback 1 3 = 1
            rollback 1 5 = 0
            rollback 1 6 = NONE
            """);
    }

    /** 12: "with an LSN above point" */
    private static void rollbackAtThePoint() {
        String run = """
            new 8
            begin -1 = 0
            put 0 8 1 = 0    # LSN 2
            begin 0 = 1      # LSN 3
            put 1 8 2 = 0    # LSN 4
            commit 1 = 0     # LSN 5
            put 0 8 3 = 0    # LSN 6
            """;
        int[] values = {0, 0, 1, 1, 2, 2, 3};
        int[] undone = {0, 3, 2, 2, 1, 1, 0};
        for (int point = 1; point <= 6; point++) {
            Script script = new Script(DUE, "12 above the point");
            script.play(run);
            script.play(undone[point], "rollback", 0, point);
            script.play(values[point], "key", 8, 1);
            script.play(3 - undone[point], "log", 3);
            script.play(0, "rollback", 0, point);
            script.play(undone[point] == 0 ? -1 : 0, "entry", 7, 1);
        }
    }

    /** 13: "false when there is no such page, or it is not so" */
    private static void write() {
        Script script = new Script(DUE, "13 write");
        script.make(2);
        for (int page = -2; page <= 9; page++) {
            script.play(0, "write", page);
        }
        script.play("""
            begin -1 = 0
            get 0 0 = 0
            put 0 28 1 = 0   # LSN 2
            write 0 = false  # in a frame, not dirty
            write 1 = false  # in no frame
            write 8 = false
            write -1 = false
            write 16 = false
            write -2147483648 = false
            write 2147483647 = false
            log 1 = 0
            write 7 = true
            log 1 = 2
            key 28 2 = 1
            write 7 = false
            put 0 0 1 = 0
            write 0 = true
            put 0 0 2 = 0    # LSN 4
            get 0 8 = 0
            get 0 12 = 0     # page 0 has left its frame
            key 0 3 = 2
            write 0 = false
            crash 0 = 3      # the UNDOs of 4, 3 and 2: page 7 is the last
            write 7 = true
            write 7 = false
            """);
    }

    /** "An object is used for at most 512 calls after it has been made" */
    private static void lastOf512() {
        NestedStore store = new NestedStore(8);
        int calls = 0;
        int t = 0;
        for (int round = 0; round < 3; round++) {
            DUE.is("begin of round " + round, store.begin(-1), t);
            for (int i = 0; i < 149; i++) {
                DUE.is("put " + i, store.put(t, i % 32, round * 1000 + i), 0);
            }
            DUE.is("commit", store.commit(t), 0);
            DUE.is("archive", store.archive(), 8);
            calls += 152;
            t++;
        }
        DUE.is("begin", store.begin(-1), 3);
        for (calls++; calls < 508; calls++) {
            DUE.is("put", store.put(3, calls % 32, calls), 0);
        }
        DUE.is("call 509: last LSN", store.log(0), 3 * 151 + 1 + 51);
        DUE.is("call 510: records", store.log(2), 52);
        DUE.is("call 511: crash", store.crash(20), 19);
        DUE.is("call 512: key", store.key(5, 1), 2133);
    }
}
