/** Promises 14, 20 and 21: archive, entry, log. */
final class LogTest {
    private static final Due DUE = new Due("LogTest");

    public static void main(String[] args) {
        archive();
        archiveRefused();
        afterArchive();
        recordsDoNotMix();
        entry();
        entryRefused();
        log();
        DUE.end();
    }

    private static void archive() {
        Script.play(DUE, "14 archive", """
            new 4
            begin -1 = 0
            put 0 0 1 = 0
            put 0 4 2 = 0
            put 0 8 3 = 0
            write 1 = true
            commit 0 = 0
            begin -1 = 1
            get 1 12 = 0
            put 1 0 9 = 0
            abort 1 = 1
            log 0 = 9
            log 1 = 5
            archive = 2      # 0 and 2: 1 is written, 3 was only read
            log 0 = 9
            log 1 = 9
            log 2 = 0
            log 3 = 0
            entry 1 0 = NONE # its LSNs are gone
            entry 9 0 = NONE
            entry 10 0 = NONE
            key 0 3 = 1
            key 8 3 = 3
            frame 0 = 0      # the pages stay in their frames, not dirty
            frame 1 = 6
            frame 2 = 4
            frame 3 = 2
            page 0 = 8
            archive = 0
            begin -1 = 2
            log 0 = 10
            log 2 = 1
            entry 10 0 = 1
            entry 10 1 = 2
            entry 9 0 = NONE
            """);
    }

    private static void archiveRefused() {
        Script.play(DUE, "14 archive refused", """
            begin -1 = 0
            put 0 0 1 = 0
            archive = NONE
            log 2 = 2
            key 0 2 = 0
            begin -1 = 1
            begin 1 = 2
            get 2 0 = WAIT
            commit 0 = 0
            archive = NONE   # a waiting one is live
            abort 2 = 0
            archive = NONE   # so is its parent
            key 0 2 = 0
            abort 1 = 0
            archive = 1
            """);
    }

    private static void afterArchive() {
        Script.play(DUE, "14 after archive", """
            new 4
            begin -1 = 0
            put 0 0 1 = 0
            commit 0 = 0
            archive = 1
            begin -1 = 1     # LSN 4
            put 1 0 2 = 0    # LSN 5
            save 1 = 5
            rollback 1 3 = NONE
            rollback 1 4 = 1
            entry 6 0 = 3
            entry 6 3 = 5
            entry 6 5 = 1
            put 1 0 3 = 0
            log 1 = 3
            crash 2 = 1      # up to LSN 5
            log 0 = 6
            log 1 = 6
            log 2 = 3
            entry 6 3 = 5
            key 0 1 = 1
            page 0 = 6
            state 0 = 3      # its COMMIT is gone from the log, and it is committed
            crash 0 = 0
            key 0 1 = 1
            archive = 1
            crash 0 = 0
            log 0 = 6
            log 2 = 0
            frame 0 = NONE
            key 0 1 = 1
            page 0 = 6
            """);
    }

    private static void recordsDoNotMix() {
        Script.play(DUE, "20 records after archive", """
            new 4
            begin -1 = 0
            put 0 0 1 = 0
            put 0 0 2 = 0
            put 0 0 3 = 0
            rollback 0 2 = 2 # LSN 5, 6
            commit 0 = 0     # LSN 7
            archive = 1
            begin -1 = 1     # LSN 8
            begin 1 = 2      # LSN 9, where an update was
            begin 1 = 3      # LSN 10
            put 2 9 5 = 0    # LSN 11, where an undone update was
            log 3 = 1
            commit 2 = 0     # LSN 12, where an UNDO was
            abort 3 = 0      # LSN 13
            entry 9 3 = 0
            entry 9 4 = 0
            entry 9 5 = 0
            entry 10 3 = 0
            entry 10 4 = 0
            entry 11 3 = 0
            entry 11 4 = 1
            entry 12 2 = 0
            entry 12 3 = 0
            entry 12 4 = 0
            entry 12 5 = 0
            entry 13 3 = 0
            entry 13 5 = 0
            """);
    }

    private static void entry() {
        Script.play(DUE, "20 entry", """
            begin -1 = 0
            begin 0 = 1
            put 1 7 -1 = 0   # LSN 3
            put 1 7 -5 = 0   # LSN 4
            delete 1 7 = 1   # LSN 5
            rollback 1 3 = 2 # LSN 6, 7
            commit 1 = 0     # LSN 8
            begin 0 = 2      # LSN 9
            abort 2 = 0      # LSN 10
            entry 2 0 = 1
            entry 2 1 = 1
            entry 2 2 = 0
            entry 2 3 = 0
            entry 2 4 = 0
            entry 2 5 = 0
            entry 3 0 = 2
            entry 3 1 = 1
            entry 3 2 = 7
            entry 3 3 = 0
            entry 3 4 = 1
            entry 3 5 = -1
            entry 4 3 = 1
            entry 4 4 = 1
            entry 4 5 = -5
            entry 5 0 = 2
            entry 5 3 = 1
            entry 5 4 = 0
            entry 5 5 = 0
            entry 6 0 = 3
            entry 6 1 = 1
            entry 6 2 = 7
            entry 6 3 = 5
            entry 6 4 = 1
            entry 6 5 = -5
            entry 7 3 = 4
            entry 7 4 = 1
            entry 7 5 = -1
            entry 8 0 = 4
            entry 8 1 = 1
            entry 8 2 = 0
            entry 8 3 = 0
            entry 8 4 = 0
            entry 8 5 = 0
            entry 10 0 = 5
            entry 10 1 = 2
            entry 10 2 = 0
            entry 10 3 = 0
            entry 10 4 = 0
            entry 10 5 = 0
            abort 0 = 1
            entry 11 0 = 3
            entry 11 1 = 0   # by the one that is aborted, not by that of the update
            entry 11 3 = 3
            entry 11 4 = 0
            entry 11 5 = 0
            """);
    }

    private static void entryRefused() {
        Script.play(DUE, "20 entry refused", """
            entry 0 0 = NONE
            entry 1 0 = NONE
            begin -1 = 0
            entry 1 0 = 1
            entry 0 0 = NONE
            entry 2 0 = NONE
            entry -1 0 = NONE
            entry 1 -1 = NONE
            entry 1 6 = NONE
            entry 1 2147483647 = NONE
            entry 1 -2147483648 = NONE
            entry 2147483647 0 = NONE
            entry -2147483648 0 = NONE
            put 0 0 1 = 0
            entry 2 0 = 2
            crash 1 = 0
            entry 1 0 = 1
            entry 2 0 = NONE # lost
            """);
    }

    private static void log() {
        Script.play(DUE, "21 log", """
            log 0 = 0
            begin -1 = 0
            put 0 0 1 = 0
            put 0 1 1 = 0
            begin 0 = 1
            put 1 2 1 = 0
            begin -1 = 2
            get 2 0 = WAIT
            log 0 = 6
            log 1 = 0
            log 2 = 6
            log 3 = 3
            log 4 = 3        # a waiting one is live
            commit 1 = 0
            log 3 = 3        # its top is still live
            log 4 = 2
            rollback 0 2 = 2
            log 0 = 9
            log 2 = 9
            log 3 = 1
            write 0 = true
            log 1 = 9
            commit 0 = 0
            log 1 = 10
            log 3 = 0
            log 4 = 1
            log -1 = NONE
            log 5 = NONE
            log 2147483647 = NONE
            log -2147483648 = NONE
            """);
    }
}
