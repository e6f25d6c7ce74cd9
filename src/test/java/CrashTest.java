/** Promise 15: crash. */
final class CrashTest {
    private static final Due DUE = new Due("CrashTest");

    public static void main(String[] args) {
        whatIsNotFlushedIsLost();
        whatIsCommittedComesBack();
        whatIsNotCommittedIsUndone();
        refused();
        childrenOfUncommitted();
        halfOfAnAbort();
        abortedChildOfCommitted();
        pagesOnTheDisk();
        fewFrames();
        crashAfterCrash();
        locksAndWaiting();
        DUE.end();
    }

    private static void whatIsNotFlushedIsLost() {
        Script.play(DUE, "15 not flushed", """
            begin -1 = 0
            put 0 0 1 = 0
            crash 0 = 0
            key 0 0 = 0
            key 0 1 = 0
            page 0 = 0
            log 0 = 0        # the log is empty again
            log 1 = 0
            log 2 = 0
            log 4 = 0
            frame 0 = NONE
            state 0 = 4
            entry 1 0 = NONE
            begin -1 = 1     # numbers are for ever, LSNs are not
            entry 1 1 = 1
            """);
    }

    private static void whatIsCommittedComesBack() {
        Script.play(DUE, "15 committed", """
            begin -1 = 0
            put 0 0 1 = 0
            begin 0 = 1
            put 1 31 -1 = 0
            delete 1 0 = 1
            put 1 4 4 = 0
            commit 1 = 0
            commit 0 = 0
            crash 0 = 0
            key 0 0 = 0
            key 31 1 = -1
            key 4 1 = 4
            key 4 2 = 0      # it comes from the log, not from the disk
            frame 0 = 3      # touched by rising LSN, dirty
            frame 1 = 1
            frame 2 = 15
            frame 3 = NONE
            page 0 = 5
            page 7 = 4
            log 0 = 8
            log 1 = 8
            log 2 = 8
            state 0 = 3
            state 1 = 3
            """);
    }

    private static void whatIsNotCommittedIsUndone() {
        Script.play(DUE, "15 not committed", """
            begin -1 = 0
            put 0 0 1 = 0    # LSN 2
            put 0 4 2 = 0    # LSN 3
            put 0 0 3 = 0    # LSN 4
            put 0 8 4 = 0    # LSN 5
            crash 4 = 3      # the first 4 behind FLUSHED
            log 0 = 7
            log 1 = 7
            log 2 = 7
            log 3 = 0
            entry 5 0 = 3
            entry 5 1 = 0
            entry 5 2 = 0
            entry 5 3 = 4    # the greatest LSN first
            entry 5 4 = 1
            entry 5 5 = 1
            entry 6 3 = 3
            entry 6 4 = 0
            entry 7 3 = 2
            entry 8 0 = NONE # no ABORTED record
            key 0 0 = 0
            key 4 0 = 0
            key 8 0 = 0
            page 0 = 7
            page 1 = 6
            page 2 = 0
            frame 0 = 1
            frame 1 = 3
            frame 2 = NONE
            state 0 = 4
            begin -1 = 1
            entry 8 1 = 1
            """);
    }

    private static void refused() {
        Script.play(DUE, "15 refused", """
            crash 1 = NONE
            crash -1 = NONE
            begin -1 = 0
            put 0 0 1 = 0
            put 0 4 1 = 0
            write 0 = true
            crash 2 = NONE   # only one is behind FLUSHED
            crash -1 = NONE
            crash 2147483647 = NONE
            crash -2147483648 = NONE
            state 0 = 1
            key 4 0 = 1
            lock 0 4 = 2
            log 1 = 2
            log 0 = 3
            crash 1 = 2
            """);
    }

    private static void childrenOfUncommitted() {
        Script.play(DUE, "15 children", """
            begin -1 = 0
            begin 0 = 1
            put 1 0 1 = 0    # LSN 3
            begin 1 = 2
            put 2 0 2 = 0    # LSN 5
            commit 2 = 0
            commit 1 = 0
            begin 0 = 3
            begin -1 = 4
            commit 4 = 0     # flushes all before it
            crash 0 = 2
            entry 11 0 = 3
            entry 11 1 = 0   # by the top
            entry 11 3 = 5
            entry 11 5 = 1
            entry 12 1 = 0
            entry 12 3 = 3
            key 0 0 = 0
            state 0 = 4
            state 1 = 4      # committed to a top that was not
            state 2 = 4
            state 3 = 4
            state 4 = 3
            """);
    }

    private static void halfOfAnAbort() {
        Script.play(DUE, "15 half of an abort", """
            begin -1 = 0
            put 0 0 1 = 0    # LSN 2
            put 0 1 2 = 0    # LSN 3
            abort 0 = 2      # LSN 4 of 3, LSN 5 of 2, LSN 6 ABORTED
            crash 4 = 1      # the UNDO of 3 is in the log, that of 2 is lost
            entry 4 3 = 3
            entry 5 0 = 3
            entry 5 3 = 2
            log 0 = 5
            page 0 = 5
            key 0 0 = 0
            key 1 0 = 0
            crash 0 = 0      # now both are in it
            new 8
            begin -1 = 0
            put 0 0 1 = 0
            begin 0 = 1
            put 1 0 2 = 0    # LSN 4
            rollback 1 3 = 1 # LSN 5
            abort 1 = 0      # LSN 6
            crash 4 = 2      # the UNDO by 1 is lost: now it is by the top
            entry 5 1 = 0
            entry 5 3 = 4
            entry 5 5 = 1
            entry 6 3 = 2
            log 0 = 6
            """);
    }

    private static void abortedChildOfCommitted() {
        Script.play(DUE, "15 aborted child of a committed top", """
            begin -1 = 0
            put 0 0 1 = 0
            begin 0 = 1
            begin 1 = 2
            put 2 0 2 = 0
            commit 2 = 0
            abort 1 = 1
            put 0 4 3 = 0
            commit 0 = 0
            crash 0 = 0
            key 0 1 = 1
            key 4 1 = 3
            state 0 = 3
            state 1 = 4
            state 2 = 3
            """);
    }

    private static void pagesOnTheDisk() {
        Script.play(DUE, "15 pages on the disk", """
            begin -1 = 0
            put 0 0 1 = 0    # LSN 2
            put 0 4 2 = 0    # LSN 3
            write 0 = true
            put 0 1 3 = 0    # LSN 4
            write 1 = true
            commit 0 = 0
            begin -1 = 1
            get 1 31 = 0
            crash 0 = 0
            frame 0 = 1      # LSN 4 had to be redone
            frame 1 = 2      # LSN 3 had not: touched, but not dirty
            frame 2 = NONE   # pages only read do not come back
            key 0 1 = 1
            key 1 1 = 3
            key 1 2 = 0
            key 4 1 = 2
            new 8
            begin -1 = 0
            put 0 0 1 = 0    # LSN 2
            write 0 = true
            crash 0 = 1      # on the disk, and undone all the same
            key 0 0 = 0
            key 0 2 = 1
            frame 0 = 1
            page 0 = 3
            write 0 = true
            key 0 2 = 0
            crash 0 = 0
            key 0 0 = 0
            frame 0 = 0      # nothing to redo: the page's LSN is that of the UNDO
            """);
    }

    private static void fewFrames() {
        Script.play(DUE, "15 few frames", """
            new 1
            begin -1 = 0
            put 0 0 1 = 0    # LSN 2
            put 0 4 2 = 0    # LSN 3, page 0 is written
            put 0 8 3 = 0    # LSN 4, page 1 is written
            put 0 0 4 = 0    # LSN 5, page 2 is written
            log 1 = 4
            crash 1 = 4
            frame 0 = 1      # the last UNDO was of LSN 2
            frame 1 = NONE
            key 0 0 = 0
            key 0 3 = 1      # as it was when it left the frame for LSN 4's UNDO
            key 4 2 = 0
            key 8 2 = 0
            page 0 = 9
            page 1 = 8
            page 2 = 7
            log 1 = 9
            archive = 1
            key 0 2 = 0
            """);
    }

    private static void crashAfterCrash() {
        Script.play(DUE, "15 crash after crash", """
            begin -1 = 0
            put 0 0 1 = 0
            commit 0 = 0
            begin -1 = 1     # LSN 4
            put 1 0 2 = 0    # LSN 5
            crash 2 = 1      # LSN 6 is the UNDO
            crash 0 = 0
            log 0 = 6
            key 0 1 = 1
            begin -1 = 2     # LSN 7
            put 2 0 3 = 0    # LSN 8
            crash 0 = 0
            log 0 = 6
            begin -1 = 3
            put 3 0 4 = 0    # LSN 8 once more
            entry 8 1 = 3
            log 3 = 1
            commit 3 = 0
            crash 0 = 0
            key 0 1 = 4
            state 1 = 4
            state 2 = 4
            state 3 = 3
            new 8
            begin -1 = 0
            put 0 0 1 = 0    # LSN 2
            rollback 0 1 = 1 # LSN 3, an UNDO
            crash 1 = 0
            log 0 = 1
            begin -1 = 1     # LSN 2
            put 1 0 2 = 0    # LSN 3, now an update
            log 3 = 1        # the UNDO that was there is forgotten
            abort 1 = 1
            """);
    }

    private static void locksAndWaiting() {
        Script.play(DUE, "15 locks and waiting", """
            begin -1 = 0
            put 0 0 1 = 0
            begin -1 = 1
            get 1 0 = WAIT
            waits 1 0 = true
            crash 3 = 1
            lock 0 0 = 0
            lock 0 32 = 0
            waits 1 0 = false
            resume 1 = NONE
            get 0 0 = NONE
            abort 0 = NONE
            state 1 = 4
            log 4 = 0
            begin -1 = 2
            put 2 0 5 = 0    # nobody is in the way
            commit 2 = 0
            begin -1 = 3
            get 3 0 = 1
            crash 0 = 0
            lock 3 0 = 0
            begin -1 = 4
            put 4 0 6 = 0
            """);
    }
}
