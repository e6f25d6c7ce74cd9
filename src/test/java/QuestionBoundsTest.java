/** Promises 14 to 24, each at its limits; that a question changes nothing Script looks at. */
final class QuestionBoundsTest {
    private static final Due DUE = new Due("QuestionBoundsTest");
    private static final int LOWEST = Integer.MIN_VALUE;
    private static final int HIGHEST = Integer.MAX_VALUE;

    public static void main(String[] args) {
        archiveOfPages();
        archiveWhenLive();
        archiveEmptiesTheLog();
        crashCounts();
        crashCountsAfterArchive();
        state();
        parent();
        lock();
        waits();
        waitsForSeveral();
        entryOfEachKind();
        entryLimits();
        log();
        key();
        frame();
        page();
        DUE.end();
    }

    /** 14: "Writes all dirty pages .. Answers how many pages were written." */
    private static void archiveOfPages() {
        for (int dirty = 0; dirty <= 8; dirty++) {
            Script script = new Script(DUE, "14 archive of " + dirty);
            script.play("begin -1 = 0\nscan 0 0 31 = 0");
            for (int p = 0; p < dirty; p++) {
                script.play(0, "put", 0, 31 - 4 * p, p);
            }
            script.play("commit 0 = 0");
            script.play(dirty, "archive");
            script.play("archive = 0\nlog 2 = 0");
            script.play(dirty + 2, "log", 0);
            script.play(dirty + 2, "log", 1);
            for (int p = 0; p < 8; p++) {
                script.play(p < dirty ? 1 : 0, "key", 31 - 4 * p, 2);
                script.play(0, "write", p);
            }
        }
    }

    /** 14: "NONE when a transaction is live." */
    private static void archiveWhenLive() {
        Script.play(DUE, "14 archive when one is live", """
            archive = 0      # there is none
            begin -1 = 0
            archive = NONE
            put 0 0 1 = 0
            archive = NONE
            begin 0 = 1
            commit 1 = 0
            archive = NONE   # the parent is live
            begin -1 = 2
            get 2 0 = WAIT
            commit 0 = 0
            archive = NONE   # WAITING
            resume 2 = 1
            archive = NONE
            abort 2 = 0
            archive = 1
            begin -1 = 3
            archive = NONE
            crash 0 = 0
            archive = 0
            """);
    }

    /** 14: "its LSNs are gone, the next one is 1 more than the last; FLUSHED is the last LSN" */
    private static void archiveEmptiesTheLog() {
        Script.play(DUE, "14 archive empties the log", """
            archive = 0
            log 0 = 0
            begin -1 = 0
            entry 1 0 = 1    # 1 more than 0
            put 0 0 1 = 0
            abort 0 = 1
            log 0 = 4
            log 1 = 0
            archive = 1
            log 0 = 4
            log 1 = 4
            log 2 = 0
            log 3 = 0
            log 4 = 0
            entry 1 0 = NONE
            entry 4 0 = NONE
            entry 5 0 = NONE
            crash 1 = NONE
            crash 0 = 0
            log 0 = 4
            page 0 = 3
            begin -1 = 1
            entry 4 0 = NONE
            entry 5 0 = 1
            entry 6 0 = NONE
            log 0 = 5
            log 1 = 4
            log 2 = 1
            save 1 = 5
            abort 1 = 0
            archive = 0
            log 0 = 6
            begin -1 = 2
            entry 6 0 = NONE
            entry 7 1 = 2
            """);
    }

    /** 15: "n is not from 0 to the number of records behind FLUSHED" */
    private static void crashCounts() {
        for (int behind = 0; behind <= 4; behind++) {
            for (int n = -2; n <= behind + 2; n++) {
                Script script = crashable(behind);
                boolean right = n >= 0 && n <= behind;
                script.play(right ? Math.max(0, n - 1) : -1, "crash", n);
                if (right) {
                    script.play(3 + n + Math.max(0, n - 1), "log", 0);
                    script.play(3 + n + Math.max(0, n - 1), "log", 1);
                    script.play(1, "key", 0, 1);
                }
            }
            Script script = crashable(behind);
            script.play(-1, "crash", LOWEST);
            script.play(-1, "crash", HIGHEST);
            script.play(0, "crash", 0);
            script.play(-1, "crash", 1);
        }
    }

    /** Three records are flushed, some are behind them: a BEGIN, then updates. */
    private static Script crashable(int behind) {
        Script script = new Script(DUE, "15 crash with " + behind + " behind FLUSHED");
        script.play("begin -1 = 0\nput 0 0 1 = 0\ncommit 0 = 0");
        if (behind > 0) {
            script.play("begin -1 = 1");
        }
        for (int i = 1; i < behind; i++) {
            script.play(0, "put", 1, 0, 10 + i);
        }
        return script;
    }

    private static void crashCountsAfterArchive() {
        Script.play(DUE, "15 crash after archive", """
            begin -1 = 0
            put 0 0 1 = 0
            commit 0 = 0
            archive = 1
            crash 1 = NONE
            crash -1 = NONE
            begin -1 = 1
            crash 2 = NONE
            put 1 0 2 = 0
            crash 3 = NONE
            write 0 = true   # FLUSHED is 5, the last
            crash 1 = NONE
            crash 0 = 1
            log 0 = 6
            key 0 1 = 1
            """);
    }

    /** 16: "NONE when there is none." */
    private static void state() {
        Script script = new Script(DUE, "16 state");
        for (int t : new int[] {LOWEST, -1, 0, 1, HIGHEST}) {
            script.play(-1, "state", t);
        }
        script.play("""
            begin -1 = 0
            state -1 = NONE
            state 0 = 1
            state 1 = NONE
            begin 0 = 1
            state 1 = 1
            state 2 = NONE
            begin -1 = 2
            put 1 0 1 = 0
            get 2 0 = WAIT
            state 2 = 2
            commit 1 = 0
            state 1 = 3
            abort 2 = 0
            state 2 = 4
            state 3 = NONE
            state 64 = NONE
            state -64 = NONE
            """);
    }

    /** 17: "NONE when there is no t, or it has none." */
    private static void parent() {
        Script script = new Script(DUE, "17 parent");
        for (int t : new int[] {LOWEST, -1, 0, 1, HIGHEST}) {
            script.play(-1, "parent", t);
        }
        script.play("""
            begin -1 = 0
            begin 0 = 1
            begin 1 = 2
            begin 2 = 3
            begin 0 = 4
            parent -1 = NONE
            parent 0 = NONE
            parent 1 = 0
            parent 2 = 1
            parent 3 = 2
            parent 4 = 0
            parent 5 = NONE
            parent 64 = NONE
            abort 0 = 0
            parent 3 = 2
            """);
    }

    /** 18: "NONE when there is no such transaction or item" */
    private static void lock() {
        Script script = new Script(DUE, "18 lock");
        script.play("lock 0 0 = NONE\nbegin -1 = 0\nbegin -1 = 1\nget 0 31 = 0\nput 0 0 1 = 0\nget 0 0 = 1");
        for (int item : new int[] {LOWEST, -33, -1, 33, 34, 64, 65, HIGHEST}) {
            script.play(-1, "lock", 0, item);
            script.play(-1, "lock", 1, item);
            script.play(-1, "lock", 2, item);
        }
        for (int t : new int[] {LOWEST, -64, -1, 2, 3, 59, 60, 64, HIGHEST}) {
            script.play(-1, "lock", t, 0);
            script.play(-1, "lock", t, 32);
        }
        script.play("""
            lock 0 0 = 2
            lock 0 1 = 0
            lock 0 31 = 0
            lock 0 32 = 2
            lock 1 0 = 0
            lock 1 32 = 0
            commit 0 = 0
            lock 0 0 = 0
            lock 0 32 = 0
            get 1 0 = 1
            lock 1 0 = 1
            get 1 31 = 0
            lock 1 32 = 1
            abort 1 = 0
            lock 1 0 = 0
            lock 1 32 = 0
            """);
    }

    /** 19: "Whether t is WAITING and waits for u now." */
    private static void waits() {
        Script script = new Script(DUE, "19 waits");
        script.play("""
            waits 0 0 = false
            begin -1 = 0
            begin -1 = 1
            begin -1 = 2
            put 0 0 1 = 0
            waits 1 0 = false # it does not wait yet
            get 1 0 = WAIT
            waits 1 0 = true
            waits 0 1 = false
            waits 1 1 = false
            waits 1 2 = false
            waits 2 0 = false
            """);
        for (int u : new int[] {LOWEST, -64, -1, 3, 59, 60, 64, 65, 128, HIGHEST}) {
            script.play(0, "waits", 1, u);
            script.play(0, "waits", u, 0);
            script.play(0, "waits", u, u);
        }
        script.play("""
            commit 0 = 0
            state 1 = 2
            waits 1 0 = false # WAITING, but not for it now
            put 2 0 2 = 0
            waits 1 2 = true  # it never asked while 2 had it
            abort 1 = 0
            waits 1 2 = false # not WAITING
            """);
    }

    private static void waitsForSeveral() {
        Script.play(DUE, "19 waits for several", """
            begin -1 = 0
            put 0 0 1 = 0
            put 0 4 1 = 0
            commit 0 = 0
            begin -1 = 1
            begin -1 = 2
            begin -1 = 3
            begin -1 = 4
            get 1 0 = 1
            get 2 0 = 1
            get 3 4 = 1
            put 4 0 2 = WAIT
            waits 4 1 = true
            waits 4 2 = true
            waits 4 3 = false
            begin 1 = 5
            get 5 0 = 1
            waits 4 5 = true
            commit 5 = 0
            waits 4 5 = false
            commit 1 = 0
            waits 4 1 = false
            waits 4 2 = true
            commit 2 = 0
            waits 4 2 = false
            resume 4 = 0
            begin -1 = 6
            delete 6 0 = WAIT # the next, 4, is the first that it may not get
            waits 6 3 = true
            waits 6 4 = false # it has 0, which comes after that
            commit 3 = 0
            waits 6 3 = false
            waits 6 4 = true
            """);
    }

    /** 20: "what 0: its kind; 1: its transaction; 2: .. else 0; 3: .. else 0; 4: .. else 0; 5: .." */
    private static void entryOfEachKind() {
        Script script = new Script(DUE, "20 entry");
        script.play("""
            begin -1 = 0
            begin 0 = 1
            put 1 31 -1 = 0
            put 1 31 0 = 0
            delete 1 31 = 1
            rollback 1 2 = 3
            commit 1 = 0
            begin 0 = 2
            abort 2 = 0
            """);
        int[][] records = {
            {1, 0, -1, 0, 0, 0}, {1, 1, 0, 0, 0, 0},
            {2, 1, 31, 0, 1, -1}, {2, 1, 31, 1, 1, 0}, {2, 1, 31, 1, 0, 0},
            {3, 1, 31, 5, 1, 0}, {3, 1, 31, 4, 1, -1}, {3, 1, 31, 3, 0, 0},
            {4, 1, 0, 0, 0, 0}, {1, 2, 0, 0, 0, 0}, {5, 2, 0, 0, 0, 0}
        };
        for (int lsn = 1; lsn <= records.length; lsn++) {
            script.play(-1, "entry", lsn, -1);
            for (int what = 0; what <= 5; what++) {
                script.play(records[lsn - 1][what], "entry", lsn, what);
            }
            script.play(-1, "entry", lsn, 6);
        }
    }

    /** 20: "NONE when there is no such record in the log or what is not 0 .. 5." */
    private static void entryLimits() {
        Script script = new Script(DUE, "20 entry's limits");
        int[] wrong = {LOWEST, LOWEST + 1, -300, -1, 0, 1, 299, 300, 301, HIGHEST};
        for (int lsn : wrong) {
            script.play(-1, "entry", lsn, 0);
        }
        script.play("begin -1 = 0\ncommit 0 = 0");
        for (int lsn : new int[] {LOWEST, -1, 0, 3, 4, 300, 301, HIGHEST}) {
            for (int what = -1; what <= 6; what++) {
                script.play(-1, "entry", lsn, what);
            }
        }
        for (int what : new int[] {LOWEST, -6, -1, 6, 7, HIGHEST}) {
            script.play(-1, "entry", 1, what);
            script.play(-1, "entry", 2, what);
        }
        script.play("""
            entry 1 0 = 1
            entry 2 0 = 4
            archive = 0
            entry 1 0 = NONE
            entry 2 0 = NONE # the last LSN, but its record is gone
            entry 3 0 = NONE
            begin -1 = 1
            entry 2 0 = NONE
            entry 3 0 = 1
            entry 4 0 = NONE
            """);
    }

    /** 21: "what 0: the last LSN (0 if there was none) .. NONE for another what." */
    private static void log() {
        Script script = new Script(DUE, "21 log");
        for (int what = 0; what <= 4; what++) {
            script.play(0, "log", what);
        }
        script.play("begin -1 = 0\nbegin 0 = 1\nput 1 0 1 = 0\nput 1 4 1 = 0\nwrite 0 = true\nput 1 0 1 = 0");
        int[] answers = {5, 3, 5, 3, 2};
        for (int what = 0; what <= 4; what++) {
            script.play(answers[what], "log", what);
        }
        for (int what : new int[] {LOWEST, -5, -2, -1, 5, 6, HIGHEST}) {
            script.play(-1, "log", what);
        }
    }

    /** 22: "NONE when there is no such key or what is not 0 .. 3. (A value may be -1, too.)" */
    private static void key() {
        Script script = new Script(DUE, "22 key");
        script.play("""
            begin -1 = 0
            put 0 0 -1 = 0
            put 0 31 -1 = 0
            write 7 = true
            put 0 31 -4 = 0
            key 0 0 = 1
            key 0 1 = -1
            key 0 2 = 0
            key 0 3 = 0
            key 31 0 = 1
            key 31 1 = -4
            key 31 2 = 1
            key 31 3 = -1
            key 30 0 = 0
            key 1 1 = 0
            """);
        for (int what = -1; what <= 4; what++) {
            for (int k : new int[] {LOWEST, -32, -1, 32, 33, HIGHEST}) {
                script.play(-1, "key", k, what);
            }
        }
        for (int what : new int[] {LOWEST, -4, -1, 4, 5, HIGHEST}) {
            script.play(-1, "key", 0, what);
            script.play(-1, "key", 31, what);
        }
    }

    /** 23: "The page in the frame that was touched i-th (0: last) .. NONE when there is none." */
    private static void frame() {
        for (int touched = 0; touched <= 8; touched++) {
            Script script = new Script(DUE, "23 frame of " + touched);
            script.play("begin -1 = 0");
            for (int p = 0; p < touched; p++) {
                script.play(0, p % 2 == 0 ? "get" : "put", 0, 4 * p, 1);
            }
            for (int i = 0; i <= 9; i++) {
                int p = touched - 1 - i;
                script.play(i < touched ? p * 2 + p % 2 : -1, "frame", i);
            }
            for (int i : new int[] {LOWEST, -8, -2, -1, 10, HIGHEST}) {
                script.play(-1, "frame", i);
            }
        }
    }

    /** 24: "NONE when there is no such page." */
    private static void page() {
        Script script = new Script(DUE, "24 page");
        script.make(1);
        script.play("begin -1 = 0");
        for (int p = 0; p < 8; p++) {
            script.play(0, "put", 0, 4 * p + p % 4, 1);
        }
        for (int p = 0; p < 8; p++) {
            script.play(p + 2, "page", p);
        }
        for (int p : new int[] {LOWEST, -8, -1, 8, 9, 16, HIGHEST}) {
            script.play(-1, "page", p);
        }
        script.play("rollback 0 8 = 1\npage 7 = 10\npage 6 = 8\nabort 0 = 7\npage 0 = 17\npage 6 = 11");
    }
}
