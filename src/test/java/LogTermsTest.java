/** The sentences of Terms on the log, open updates and the room, each at its limits. */
final class LogTermsTest {
    private static final Due DUE = new Due("LogTermsTest");

    public static void main(String[] args) {
        lsnsFromOne();
        upToFlushed();
        kinds();
        updateAndUndo();
        openUpdates();
        openWithinATop();
        for (int used = 297; used <= 300; used++) {
            roomForBegin(used);
            roomForPut(used);
            roomForDelete(used);
            roomForResume(used);
        }
        fullChangesNothingButLocks();
        whatNeedsNoRoom();
        neverAboveByCrash();
        refusedBeforeFull();
        waitBeforeFull();
        lsnsBeyondTheRoom();
        DUE.end();
    }

    /** "THE LOG has records with the LSNs 1, 2, .." and "FLUSHED (0 at first)" */
    private static void lsnsFromOne() {
        Script.play(DUE, "LSNs 1, 2, ..", """
            log 0 = 0
            log 1 = 0
            entry 0 0 = NONE
            entry 1 0 = NONE
            begin -1 = 0
            entry 0 0 = NONE
            entry 1 0 = 1
            entry 2 0 = NONE
            put 0 0 1 = 0
            entry 2 0 = 2
            entry 3 0 = NONE
            log 1 = 0
            """);
    }

    /** "those up to FLUSHED (0 at first) outlast a crash" */
    private static void upToFlushed() {
        String three = """
            new 8
            begin -1 = 0
            begin -1 = 1
            commit 0 = 0
            log 1 = 3
            begin -1 = 2     # LSN 4
            begin -1 = 3     # LSN 5
            """;
        Script.play(DUE, "FLUSHED and no more", three + """
            crash 0 = 0
            entry 3 0 = 4    # at FLUSHED
            entry 4 0 = NONE # one behind it
            log 0 = 3
            log 1 = 3
            log 2 = 3
            """);
        Script.play(DUE, "FLUSHED and one more", three + """
            crash 1 = 0
            entry 3 0 = 4
            entry 4 0 = 1
            entry 5 0 = NONE
            log 0 = 4
            log 1 = 4
            """);
        Script.play(DUE, "nothing is flushed", """
            begin -1 = 0
            put 0 0 1 = 0
            crash 0 = 0
            entry 1 0 = NONE
            log 0 = 0
            log 1 = 0
            begin -1 = 1
            entry 1 1 = 1    # LSN 1 once more
            """);
    }

    /** "KINDS: 1 BEGIN .. 2 UPDATE .. 3 UNDO .. 4 COMMIT, 5 ABORTED" */
    private static void kinds() {
        Script.play(DUE, "kinds", """
            begin -1 = 0
            begin 0 = 1
            put 1 31 -1 = 0
            commit 1 = 0
            rollback 0 1 = 1
            begin 0 = 2
            abort 2 = 0
            entry 1 0 = 1
            entry 1 2 = -1   # no parent
            entry 2 0 = 1
            entry 2 2 = 0    # the parent
            entry 3 0 = 2
            entry 3 1 = 1
            entry 3 2 = 31
            entry 3 3 = 0    # before
            entry 3 4 = 1    # after
            entry 3 5 = -1
            entry 4 0 = 4
            entry 4 1 = 1
            entry 5 0 = 3
            entry 5 1 = 0    # by the one that rolls back
            entry 5 2 = 31
            entry 5 3 = 3    # of the update
            entry 5 4 = 0    # as it was before that one
            entry 5 5 = 0
            entry 7 0 = 5
            entry 7 1 = 2
            """);
    }

    /** "touches the key's page, changes the key, and the page's LSN becomes that of the record" */
    private static void updateAndUndo() {
        Script.play(DUE, "update and undo", """
            new 2
            begin -1 = 0
            put 0 31 -2147483648 = 0
            frame 0 = 15
            page 7 = 2
            key 31 1 = -2147483648
            put 0 31 2147483647 = 0
            page 7 = 3
            key 31 1 = 2147483647
            get 0 0 = 0
            frame 0 = 0
            delete 0 31 = 1
            frame 0 = 15
            frame 1 = 0
            page 7 = 4
            get 0 0 = 0
            rollback 0 2 = 2
            frame 0 = 15
            page 7 = 6
            key 31 0 = 1
            key 31 1 = -2147483648
            entry 5 5 = 2147483647
            entry 6 5 = -2147483648
            page 0 = 0
            """);
    }

    /** "OPEN when no UNDO is of it and its transaction's top is not COMMITTED or ABORTED" */
    private static void openUpdates() {
        Script.play(DUE, "open with a live top", """
            begin -1 = 0
            log 3 = 0
            put 0 0 1 = 0
            log 3 = 1
            put 0 0 2 = 0
            log 3 = 2
            rollback 0 2 = 1
            log 3 = 1        # an UNDO is of it
            begin -1 = 1
            put 1 8 1 = WAIT # END is kept by 0
            log 3 = 1
            begin -1 = 2
            get 2 0 = WAIT
            commit 0 = 0     # COMMITTED
            log 3 = 0
            resume 1 = 0
            put 1 0 5 = 0
            log 3 = 2
            begin -1 = 3
            put 3 0 3 = WAIT
            abort 1 = 2      # ABORTED
            log 3 = 0
            """);
        Script.play(DUE, "open with a waiting top", """
            begin -1 = 0
            put 0 0 1 = 0
            put 0 4 1 = 0
            commit 0 = 0
            begin -1 = 1
            begin -1 = 2
            put 1 0 2 = 0
            put 2 4 2 = 0
            put 2 0 3 = WAIT
            log 3 = 2        # WAITING is not COMMITTED or ABORTED
            abort 2 = 1
            log 3 = 1
            """);
    }

    private static void openWithinATop() {
        Script.play(DUE, "open within a top", """
            begin -1 = 0
            begin 0 = 1
            begin 1 = 2
            begin 2 = 3
            put 3 0 1 = 0
            log 3 = 1
            commit 3 = 0
            log 3 = 1        # its top is ACTIVE
            commit 2 = 0
            commit 1 = 0
            log 3 = 1
            begin 0 = 4
            put 4 0 2 = 0
            log 3 = 2
            abort 4 = 1
            log 3 = 1
            commit 0 = 0
            log 3 = 0
            begin -1 = 5
            begin 5 = 6
            put 6 0 3 = 0
            put 6 1 3 = 0
            commit 6 = 0
            log 3 = 2
            abort 5 = 2
            log 3 = 0
            """);
    }

    /** A script in which so much of the room is used: by an ACTIVE top 1, which put 3 and 5 last. */
    private static Script used(int used, String name) {
        Script script = new Script(DUE, name + " at " + used);
        script.play("""
            begin -1 = 0
            put 0 3 1 = 0
            """);
        // The commit leaves 3 records, the abort 4: so that both odd and even numbers come.
        script.play(used % 2 == 1 ? "commit 0 = 0" : "abort 0 = 1");
        int taken = used % 2 == 1 ? 3 : 4;
        script.play(1, "begin", -1);
        for (taken += 2; taken < used; taken += 2) {
            script.play(0, "put", 1, taken % 4 < 2 ? 3 : 5, taken);
        }
        int records = script.ask("log", 2);
        int open = script.ask("log", 3);
        DUE.is("room used in " + name, records + open + script.ask("log", 4), used);
        return script;
    }

    /** "is never above 300; a begin, put or delete by which it would be is answered FULL" */
    private static void roomForBegin(int used) {
        boolean room = used <= 298;
        used(used, "begin -1").play(room ? 2 : -5, "begin", -1);
        Script child = used(used, "begin 1");
        child.play(room ? 2 : -5, "begin", 1);
        child.play(room ? 1 : -1, "state", 2);
        child.play(room ? 1 : -1, "parent", 2);
    }

    private static void roomForPut(int used) {
        boolean room = used <= 298;
        Script there = used(used, "put of a key that is there");
        there.play(room ? 0 : -5, "put", 1, 3, -7);
        if (room) {
            there.play(-7, "key", 3, 1);
        }
        Script absent = used(used, "put of an absent key");
        absent.play(room ? 0 : -5, "put", 1, 20, -7);
        absent.play(room ? 1 : 0, "key", 20, 0);
        absent.play(2, "lock", 1, 20);
        absent.play(2, "lock", 1, 32);
        Script twice = used(used, "put twice");
        twice.play(room ? 0 : -5, "put", 1, 5, 1);
        twice.play(-5, "put", 1, 5, 2);
    }

    private static void roomForDelete(int used) {
        boolean room = used <= 298;
        Script there = used(used, "delete of a key that is there");
        there.play(room ? 1 : -5, "delete", 1, 3);
        there.play(room ? 0 : 1, "key", 3, 0);
        Script absent = used(used, "delete of an absent key");
        absent.play(0, "delete", 1, 20);
        absent.play(0, "delete", 1, 0);
    }

    /** A request that waited is FULL, too, when it has all its locks at last. */
    private static void roomForResume(int used) {
        boolean room = used <= 298;
        Script put = waitingAt(used, "put 2 3 7");
        put.play(room ? 0 : -5, "resume", 2);
        put.play(room ? 7 : 1, "key", 3, 1);
        put.play(2, "lock", 2, 3);
        put.play(1, "state", 2);             // ACTIVE with this answer, too
        put.play(-1, "resume", 2);
        Script delete = waitingAt(used, "delete 2 3");
        delete.play(room ? 1 : -5, "resume", 2);
        delete.play(room ? 0 : 1, "key", 3, 0);
        delete.play(2, "lock", 2, 3);
        delete.play(1, "state", 2);
        delete.play(-1, "resume", 2);
    }

    /** 2 waited for key 3 that 1 had; 1 is aborted, by which the room used stays the same. */
    private static Script waitingAt(int used, String request) {
        Script script = new Script(DUE, "resume of " + request + " at " + used);
        script.play("begin -1 = 0\nput 0 3 1 = 0");
        if (used % 2 == 0) {
            script.play("put 0 2 1 = 0");
        }
        script.play("commit 0 = 0\nbegin -1 = 1\nbegin -1 = 2");
        int puts = (used - 7) / 2;
        for (int i = 0; i < puts; i++) {
            script.play(0, "put", 1, 3, i + 100);
        }
        script.play(request + " = WAIT");
        script.play(puts, "abort", 1);
        int records = script.ask("log", 2);
        int open = script.ask("log", 3);
        DUE.is("room used for " + request, records + open + script.ask("log", 4), used);
        return script;
    }

    /** "changes nothing (but that locks stay which it had to get before)" */
    private static void fullChangesNothingButLocks() {
        Script script = new Script(DUE, "full but for locks");
        script.play("""
            begin -1 = 0
            put 0 10 1 = 0
            put 0 20 1 = 0
            commit 0 = 0
            begin -1 = 1
            """);
        for (int i = 0; i < 147; i++) {
            script.play(0, "put", 1, 3, i);
        }
        script.play("""
            get 1 3 = 1
            value = 146
            lock 1 10 = 2    # the next of 3, when it was absent
            lock 1 20 = 0
            lock 1 32 = 0
            delete 1 20 = FULL
            lock 1 20 = 2    # the next of 20, and 20
            lock 1 32 = 2
            lock 1 15 = 0
            put 1 15 5 = FULL
            lock 1 15 = 2
            key 15 0 = 0
            key 20 1 = 1
            value = 146
            log 0 = 152
            begin -1 = FULL
            begin 1 = FULL
            state 2 = NONE
            commit 1 = 0
            begin -1 = 2     # the number was not used up
            """);
    }

    private static void whatNeedsNoRoom() {
        Script rolled = used(300, "rollback");
        rolled.play("""
            get 1 3 = 1
            scan 1 0 31 = 2
            delete 1 31 = 0
            save 1 = 152
            log 2 = 152
            log 3 = 147
            log 4 = 1
            rollback 1 152 = 0
            rollback 1 151 = 1
            log 2 = 153      # a record more, an open update less
            log 3 = 146
            put 1 3 0 = FULL
            write 0 = true
            rollback 1 5 = 146
            log 2 = 299
            log 3 = 0
            put 1 3 0 = FULL
            commit 1 = 0
            log 2 = 300      # a record more, a live one less
            log 4 = 0
            begin -1 = FULL
            archive = 2
            log 2 = 0
            begin -1 = 2
            """);
        Script last = used(300, "abort with 299 records");
        last.play("""
            rollback 1 5 = 147
            log 2 = 299
            log 4 = 1
            rollback 1 5 = 0
            rollback 1 299 = 0
            rollback 1 300 = NONE
            abort 1 = 0
            log 2 = 300
            entry 300 0 = 5
            entry 301 0 = NONE
            """);
        Script aborted = used(300, "abort");
        aborted.play("""
            abort 1 = 147
            log 2 = 300
            log 3 = 0
            log 4 = 0
            begin -1 = FULL
            """);
        Script committed = used(300, "commit");
        committed.play("""
            commit 1 = 0
            log 2 = 153
            log 3 = 0
            log 4 = 0
            begin -1 = 2
            """);
    }

    private static void neverAboveByCrash() {
        Script all = used(300, "crash with all");
        all.play("""
            log 1 = 0
            crash 153 = NONE # there are 152
            crash 152 = 147
            log 2 = 299
            log 3 = 0
            log 4 = 0
            begin -1 = FULL
            crash 0 = 0
            log 2 = 299
            """);
        Script half = used(300, "crash in the middle of an abort");
        half.play("""
            abort 1 = 147
            log 0 = 300
            crash 200 = 99   # 152 records, and 48 of the UNDOs
            log 0 = 299
            log 2 = 299
            begin -1 = FULL
            archive = 2
            begin -1 = 2
            """);
        Script none = used(300, "crash with none");
        none.play("""
            crash 0 = 0
            log 2 = 0
            begin -1 = 2
            """);
    }

    /** NONE and BUSY are told before FULL. */
    private static void refusedBeforeFull() {
        used(300, "NONE before FULL").play("""
            begin 0 = NONE   # ABORTED
            begin 2 = NONE
            begin -2 = NONE
            put 0 3 1 = NONE
            put 2 3 1 = NONE
            put 1 32 1 = NONE
            put 1 -1 1 = NONE
            delete 1 32 = NONE
            resume 1 = NONE
            """);
        Script busy = used(298, "BUSY before FULL");
        busy.play("""
            begin 1 = 2
            begin 1 = FULL   # it has a live child, which is no hindrance
            put 1 3 1 = BUSY
            delete 1 3 = BUSY
            put 2 3 1 = FULL
            """);
        Script sixty = new Script(DUE, "60 and full");
        for (int t = 0; t < 58; t++) {
            sixty.play(t, "begin", -1);
            sixty.play(0, "commit", t);
        }
        sixty.play("begin -1 = 58");
        for (int i = 0; i < 90; i++) {
            sixty.play(0, "put", 58, 0, i);
        }
        sixty.play("""
            begin -1 = 59    # 298 before it
            begin -1 = NONE  # there were 60, and it is full
            begin 59 = NONE
            put 58 0 1 = FULL
            log 2 = 208
            """);
    }

    /** The locks come first: FULL is told when it has them all. */
    private static void waitBeforeFull() {
        Script script = used(298, "WAIT before FULL");
        script.play("""
            begin -1 = 2
            put 2 3 1 = WAIT
            state 2 = 2
            log 2 = 152
            resume 2 = WAIT
            begin -1 = FULL
            """);
    }

    /** "its LSNs are gone, the next one is 1 more than the last": more of them than there is room. */
    private static void lsnsBeyondTheRoom() {
        Script script = used(300, "LSNs above 300");
        script.play("""
            abort 1 = 147    # up to LSN 300
            archive = 2
            begin -1 = 2     # LSN 301
            entry 300 0 = NONE
            entry 301 0 = 1
            entry 301 1 = 2
            put 2 3 30 = 0   # LSN 302, in a place where an update was undone
            put 2 3 31 = 0   # LSN 303
            log 3 = 2
            page 0 = 303
            rollback 2 300 = NONE
            rollback 2 304 = NONE
            rollback 2 302 = 1
            entry 304 3 = 303
            commit 2 = 0     # LSN 305
            log 1 = 305
            log 2 = 5
            crash 0 = 0
            key 3 1 = 30
            page 0 = 304
            log 0 = 305
            """);
    }
}
