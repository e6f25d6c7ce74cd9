/** Promises 11 and 12: save, rollback. */
final class SavepointTest {
    private static final Due DUE = new Due("SavepointTest");

    public static void main(String[] args) {
        save();
        rollback();
        rollbackOfDescendants();
        rollbackPoints();
        rollbackTwice();
        DUE.end();
    }

    private static void save() {
        Script.play(DUE, "11 save", """
            save 0 = NONE
            begin -1 = 0
            save 0 = 1
            put 0 1 1 = 0
            save 0 = 2
            begin -1 = 1
            save 0 = 3       # the last LSN of all
            log 0 = 3        # no record of it
            begin 0 = 2
            save 0 = BUSY
            save 2 = 4
            save -1 = NONE
            save 3 = NONE
            get 1 1 = WAIT
            save 1 = NONE    # waiting
            commit 2 = 0
            commit 0 = 0
            save 0 = NONE
            save 2 = NONE
            abort 1 = 0
            save 1 = NONE
            archive = 1
            begin -1 = 3
            save 3 = 8
            """);
    }

    private static void rollback() {
        Script.play(DUE, "12 rollback", """
            begin -1 = 0
            put 0 1 10 = 0
            put 0 1 11 = 0
            save 0 = 3
            put 0 1 12 = 0   # LSN 4
            delete 0 1 = 1   # LSN 5
            put 0 9 90 = 0   # LSN 6
            log 3 = 5
            rollback 0 3 = 3
            entry 7 0 = 3
            entry 7 1 = 0
            entry 7 2 = 9
            entry 7 3 = 6    # the greatest first
            entry 7 4 = 0
            entry 8 3 = 5
            entry 8 4 = 1
            entry 8 5 = 12
            entry 9 3 = 4
            entry 9 5 = 11
            key 1 1 = 11
            key 9 0 = 0
            page 0 = 9
            page 2 = 7
            log 0 = 9
            log 3 = 2
            state 0 = 1
            lock 0 1 = 2     # locks stay
            lock 0 9 = 2
            lock 0 32 = 2
            commit 0 = 0
            key 1 1 = 11
            """);
    }

    private static void rollbackOfDescendants() {
        Script.play(DUE, "12 rollback of descendants", """
            begin -1 = 0
            put 0 1 10 = 0
            begin -1 = 1
            begin 0 = 2
            put 2 1 11 = 0   # LSN 5
            begin 2 = 3
            put 3 1 12 = 0   # LSN 7
            commit 3 = 0
            commit 2 = 0
            begin 0 = 4
            put 4 1 13 = 0   # LSN 11
            put 4 2 23 = 0   # LSN 12
            rollback 4 11 = 1
            rollback 4 10 = 1 # not those of others above the point: there are none
            rollback 4 9 = NONE # before its BEGIN
            key 1 1 = 12
            commit 4 = 0
            rollback 0 3 = 2 # those of 2 and 3; those of 4 are undone
            entry 16 1 = 0
            entry 16 3 = 7
            entry 17 3 = 5
            key 1 1 = 10
            rollback 0 1 = 1
            key 1 0 = 0
            new 4
            begin -1 = 0
            put 0 1 10 = 0
            commit 0 = 0
            begin -1 = 1
            begin -1 = 2
            put 1 1 11 = 0
            put 2 9 9 = 0
            begin 1 = 3
            rollback 3 8 = 0 # another's and its parent's are below, and not its own
            rollback 2 5 = 1 # only its own
            key 1 1 = 11
            key 9 0 = 0
            """);
    }

    private static void rollbackPoints() {
        Script.play(DUE, "12 rollback's points", """
            begin -1 = 0
            begin -1 = 1
            put 1 1 10 = 0
            rollback 1 3 = 0  # the last LSN
            rollback 1 4 = NONE
            rollback 1 2147483647 = NONE
            rollback 1 1 = NONE
            rollback 1 0 = NONE
            rollback 1 -1 = NONE
            rollback 1 -2147483648 = NONE
            rollback 2 3 = NONE
            rollback -1 3 = NONE
            begin 1 = 2
            rollback 1 3 = BUSY
            abort 2 = 0
            get 0 1 = WAIT
            rollback 0 3 = NONE # waiting
            log 0 = 5
            rollback 1 2 = 1  # its own BEGIN
            log 0 = 6
            commit 1 = 0
            rollback 1 7 = NONE
            """);
    }

    private static void rollbackTwice() {
        Script.play(DUE, "12 rollback twice", """
            begin -1 = 0
            put 0 1 10 = 0
            put 0 1 11 = 0
            rollback 0 2 = 1
            rollback 0 2 = 0 # undone once, not open
            put 0 1 12 = 0
            rollback 0 2 = 1
            key 1 1 = 10
            abort 0 = 1
            key 1 0 = 0
            """);
    }
}
