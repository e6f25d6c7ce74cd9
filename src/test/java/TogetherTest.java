/** Where two sentences of the document together say what an answer must be: both hold at once. */
final class TogetherTest {
    private static final Due DUE = new Due("TogetherTest");
    private static final String FOUR_KEYS = """
        new 8
        begin -1 = 0
        put 0 4 40 = 0
        put 0 8 80 = 0
        put 0 12 120 = 0
        put 0 20 200 = 0
        commit 0 = 0     # LSN 6
        """;

    public static void main(String[] args) {
        skippedInItsPlace();
        keptOverSeveralResumes();
        keptThoughAnotherIsAborted();
        keptByAVictimNoMore();
        anotherItemNow();
        anotherFirstLockNow();
        anotherHolderNow();
        circleThroughWhatIsWaitedForNow();
        noCircleThroughWhatWasWaitedFor();
        circleThroughAnHeir();
        victimTakesItsFamily();
        circleWhenFull();
        abortOfMixedFamily();
        rollbackOverCommittedChildren();
        statesUnderAnAbortedTop();
        undoByWhom();
        rolledBackThenLost();
        lsnsGivenAgain();
        forcedOutThenUndone();
        archivedThenCrashed();
        DUE.end();
    }

    /** "in the order said", "each one that T does not have so (or stronger) already" */
    private static void skippedInItsPlace() {
        Script.play(DUE, "scan over locks that it has", FOUR_KEYS + """
            begin -1 = 1
            begin -1 = 2
            put 2 8 1 = 0    # 2 has 8 exclusive
            get 2 20 = 1     # and 20 shared
            put 1 12 1 = 0
            scan 2 0 31 = WAIT # 4 got, 8 had, 12 not got
            lock 2 4 = 1
            lock 2 8 = 2     # the stronger one
            lock 2 12 = 0
            lock 2 20 = 1    # had before, though it stands behind 12
            lock 2 32 = 0    # not asked for yet
            waits 2 1 = true
            commit 1 = 0
            waits 2 1 = false
            resume 2 = 4
            value = 242
            lock 2 8 = 2
            lock 2 12 = 1
            lock 2 32 = 1
            """);
        Script.play(DUE, "delete with the next had already", FOUR_KEYS + """
            begin -1 = 1
            begin -1 = 2
            put 2 12 1 = 0   # the next of 8
            get 1 8 = 1
            delete 2 8 = WAIT
            lock 2 12 = 2
            lock 2 8 = 0
            waits 2 1 = true
            commit 1 = 0
            resume 2 = 1
            """);
        Script.play(DUE, "delete with the key had already", FOUR_KEYS + """
            begin -1 = 1
            begin -1 = 2
            put 2 8 1 = 0    # the key itself
            get 1 12 = 1
            delete 2 8 = WAIT # for the next, which comes first
            lock 2 12 = 0
            lock 2 8 = 2
            waits 2 1 = true
            put 1 8 5 = WAIT # 1 to 2 to 1
            state 2 = 4
            key 8 1 = 80
            """);
        Script.play(DUE, "shared is not enough", FOUR_KEYS + """
            begin -1 = 1
            begin -1 = 2
            get 1 8 = 1
            get 2 8 = 1
            put 1 8 1 = WAIT # it has it, but not so
            lock 1 8 = 1
            waits 1 2 = true
            waits 1 1 = false
            commit 2 = 0
            resume 1 = 0
            lock 1 8 = 2
            """);
    }

    /** "made again, as a new one" and "keeps the locks that it has got": each time some more. */
    private static void keptOverSeveralResumes() {
        Script.play(DUE, "a scan in three steps", FOUR_KEYS + """
            begin -1 = 1
            begin -1 = 2
            begin -1 = 3
            put 1 8 1 = 0
            put 2 20 2 = 0
            scan 3 0 31 = WAIT
            lock 3 4 = 1
            lock 3 8 = 0
            waits 3 1 = true
            waits 3 2 = false # not the first lock that it may not get
            commit 1 = 0
            waits 3 1 = false
            waits 3 2 = true
            lock 3 8 = 0     # nothing is got before it is asked for again
            begin -1 = 4
            put 4 8 4 = 0    # so another may come first
            waits 3 2 = false
            waits 3 4 = true
            resume 3 = WAIT
            commit 4 = 0
            resume 3 = WAIT
            lock 3 8 = 1
            lock 3 12 = 1
            lock 3 20 = 0
            commit 2 = 0
            resume 3 = 4
            value = 166
            """);
        Script.play(DUE, "what is kept keeps a range as it was read", FOUR_KEYS + """
            begin -1 = 1
            begin -1 = 2
            begin -1 = 3
            put 1 12 1 = 0
            scan 2 0 31 = WAIT # it has 4 and 8
            put 3 2 1 = WAIT # the next of 2 is 4
            waits 3 2 = true
            abort 3 = 0
            begin -1 = 4
            put 4 9 1 = WAIT # the next of 9 is 12
            waits 4 1 = true
            waits 4 2 = false
            abort 4 = 0
            put 1 9 1 = 0    # 1 has 12, and 9 is nobody's
            resume 2 = WAIT
            lock 2 9 = 0
            commit 1 = 0
            resume 2 = 5
            lock 2 9 = 1
            value = 322
            """);
    }

    /** "keeps the locks that it has got, and circles are broken": both, when it stays WAITING. */
    private static void keptThoughAnotherIsAborted() {
        Script.play(DUE, "locks of one whose circle is broken", FOUR_KEYS + """
            begin -1 = 1
            begin -1 = 2
            put 1 20 1 = 0
            put 2 12 2 = 0
            get 2 20 = WAIT
            scan 1 0 15 = WAIT # 4 and 8 got, 12 not: 2 is aborted
            state 2 = 4
            state 1 = 2      # WAITING, though it may get all now
            waits 1 2 = false
            lock 1 4 = 1
            lock 1 8 = 1
            lock 1 12 = 0
            lock 1 20 = 2
            key 12 1 = 120
            get 1 12 = NONE  # it waits, and is asked by resume alone
            commit 1 = NONE
            save 1 = NONE
            rollback 1 7 = NONE
            begin 1 = NONE
            resume 1 = 3
            value = 240
            resume 1 = NONE
            """);
    }

    /** "the answer is VICTIM if T was aborted by that" and "all of these have no locks any more" */
    private static void keptByAVictimNoMore() {
        Script.play(DUE, "locks of a victim", FOUR_KEYS + """
            begin -1 = 1
            begin -1 = 2
            put 1 12 1 = 0
            put 2 20 2 = 0
            get 1 20 = WAIT
            scan 2 0 15 = VICTIM # it had got 4 and 8 on its way
            lock 2 4 = 0
            lock 2 8 = 0
            lock 2 12 = 0
            lock 2 20 = 0
            state 2 = 4
            resume 2 = NONE
            key 20 1 = 200
            resume 1 = 1
            value = 200
            """);
    }

    /** "in the order of its request as things are now": the key is gone, so its next is asked for. */
    private static void anotherItemNow() {
        Script.play(DUE, "the next of a key that is gone", FOUR_KEYS + """
            begin -1 = 1
            begin -1 = 2
            put 1 8 1 = 0
            get 2 8 = WAIT
            delete 1 8 = 1
            waits 2 1 = true # for 12 now
            commit 1 = 0
            waits 2 1 = false
            begin -1 = 3
            put 3 12 3 = 0
            waits 2 3 = true # though 2 asked for 8, and 3 has no lock on it
            lock 3 8 = 0
            resume 2 = WAIT
            commit 3 = 0
            resume 2 = 0
            value = 0
            lock 2 8 = 0
            lock 2 12 = 1
            """);
        Script.play(DUE, "a key that has come", FOUR_KEYS + """
            begin -1 = 1
            begin -1 = 2
            put 1 10 1 = 0   # 12 and 10
            get 2 11 = WAIT  # for 12
            commit 1 = 0
            begin -1 = 3
            put 3 11 3 = 0   # 12 and 11
            waits 2 3 = true
            commit 3 = 0
            begin -1 = 4
            put 4 12 4 = 0
            waits 2 4 = false # 11 is there: 12 is not asked for
            resume 2 = 1
            value = 3
            lock 2 11 = 1
            lock 2 12 = 0
            """);
        Script.play(DUE, "a delete of a key that is gone asks for shared", FOUR_KEYS + """
            begin -1 = 1
            begin -1 = 2
            begin -1 = 3
            put 1 8 1 = 0
            put 1 12 1 = 0
            delete 2 8 = WAIT # 12, exclusive
            delete 1 8 = 1
            commit 1 = 0
            get 3 12 = 1
            waits 2 3 = false # 12, shared
            resume 2 = 0
            lock 2 12 = 1
            lock 2 8 = 0
            put 3 12 3 = WAIT
            waits 3 2 = true
            """);
    }

    /** "for the first lock that it may not get now": it may be one before that which it lacked. */
    private static void anotherFirstLockNow() {
        Script.play(DUE, "the next comes before the key", FOUR_KEYS + """
            begin -1 = 1
            begin -1 = 2
            begin -1 = 3
            get 1 12 = 1
            delete 2 8 = WAIT # for 12; 8 is free
            waits 2 1 = true
            get 3 8 = 1
            waits 2 3 = false # 8 comes behind 12
            commit 1 = 0
            waits 2 1 = false
            waits 2 3 = true
            resume 2 = WAIT
            lock 2 12 = 2
            lock 2 8 = 0
            """);
        Script.play(DUE, "a key before the others", FOUR_KEYS + """
            begin -1 = 1
            begin -1 = 2
            begin -1 = 3
            put 1 4 1 = 0
            put 2 12 2 = 0
            scan 3 0 31 = WAIT
            waits 3 1 = true
            waits 3 2 = false
            commit 1 = 0
            waits 3 2 = true
            begin -1 = 4
            put 4 8 4 = 0
            waits 3 2 = false
            waits 3 4 = true
            """);
    }

    /** "waits for u now" and "its parent gets all its locks": then it waits for the parent. */
    private static void anotherHolderNow() {
        Script.play(DUE, "a child's locks go up", FOUR_KEYS + """
            begin -1 = 1
            begin 1 = 2
            begin 2 = 3
            put 3 8 1 = 0
            begin -1 = 4
            get 4 8 = WAIT
            waits 4 3 = true
            waits 4 2 = false
            commit 3 = 0
            waits 4 3 = false
            waits 4 2 = true
            commit 2 = 0
            waits 4 2 = false
            waits 4 1 = true
            state 4 = 2
            resume 4 = WAIT
            commit 1 = 0
            waits 4 1 = false
            resume 4 = 1
            value = 1
            """);
        Script.play(DUE, "a sibling's locks come to its own ancestor", FOUR_KEYS + """
            begin -1 = 1
            begin 1 = 2
            begin 1 = 3
            put 2 8 1 = 0
            get 3 8 = WAIT
            waits 3 2 = true
            commit 2 = 0     # 1 has it, an ancestor of 3
            waits 3 2 = false
            waits 3 1 = false
            resume 3 = 1
            value = 1
            lock 3 8 = 1
            lock 1 8 = 2
            """);
        Script.play(DUE, "all that have it, but for ancestors", FOUR_KEYS + """
            begin -1 = 1
            get 1 8 = 1
            begin 1 = 2
            get 2 8 = 1
            begin -1 = 3
            get 3 8 = 1
            begin 1 = 4
            put 4 8 1 = WAIT
            waits 4 1 = false
            waits 4 2 = true
            waits 4 3 = true
            commit 2 = 0
            waits 4 2 = false
            waits 4 3 = true
            commit 3 = 0
            resume 4 = 0
            """);
    }

    /** "a WAITING one to those for which it waits now": not for which it waited when it asked. */
    private static void circleThroughWhatIsWaitedForNow() {
        String changed = FOUR_KEYS + """
            begin -1 = 1
            begin -1 = 2
            begin -1 = 3
            """;
        Script.play(DUE, "a circle by what is asked for now", changed + """
            get 1 20 = 1
            put 2 8 2 = 0
            get 1 8 = WAIT   # for 2
            delete 2 8 = 1
            commit 2 = 0     # for none
            put 3 12 3 = 0   # for 3: the next of 8 is 12
            put 3 20 3 = VICTIM # 3 to 1 to 3
            state 1 = 2
            waits 1 3 = false
            resume 1 = 0
            """);
        Script.play(DUE, "and the older one closes it", changed + """
            get 3 20 = 1
            put 2 8 2 = 0
            get 3 8 = WAIT
            delete 2 8 = 1
            commit 2 = 0
            put 1 12 1 = 0
            put 1 20 1 = WAIT # 1 to 3 to 1: 3 is aborted
            state 3 = 4
            state 1 = 2
            resume 1 = 0
            """);
    }

    private static void noCircleThroughWhatWasWaitedFor() {
        String waited = FOUR_KEYS + """
            begin -1 = 1
            begin -1 = 2
            begin -1 = 3
            put 1 4 1 = 0
            put 2 12 2 = 0
            """;
        Script.play(DUE, "shared beside shared leads to none", waited + """
            get 2 4 = WAIT
            commit 1 = 0
            get 3 4 = 1      # 2 may get it as well
            get 3 12 = WAIT  # 3 to 2, and no further
            state 2 = 2
            resume 2 = 1
            commit 2 = 0
            resume 3 = 1
            """);
        Script.play(DUE, "exclusive beside shared leads on", waited + """
            put 2 4 2 = WAIT
            commit 1 = 0
            get 3 4 = 1
            get 3 12 = VICTIM # 3 to 2 to 3
            state 2 = 2
            resume 2 = 0
            """);
    }

    /** "a live one to its live children" and "its parent gets all its locks" */
    private static void circleThroughAnHeir() {
        Script.play(DUE, "a circle through one that was given the lock", FOUR_KEYS + """
            begin -1 = 1
            begin 1 = 2
            put 2 8 1 = 0
            begin -1 = 3
            put 3 20 1 = 0
            get 3 8 = WAIT   # 3 to 2
            begin 1 = 4
            get 4 20 = WAIT  # 4 to 3 to 2: no way back to 4
            commit 2 = 0     # 3 to 1 now, and 1 to 4
            state 4 = 2      # a commit breaks no circle
            state 3 = 2
            resume 3 = WAIT  # 3 to 1 to 4 to 3: 4 is the greatest
            state 4 = 4
            state 3 = 2
            state 1 = 1
            waits 3 1 = true
            """);
    }

    /** "the one with the greatest number is aborted" and "those of all other descendants of T" */
    private static void victimTakesItsFamily() {
        Script.play(DUE, "a victim with a child that has committed", FOUR_KEYS + """
            begin -1 = 1     # LSN 7
            begin -1 = 2     # LSN 8
            put 1 8 1 = 0    # LSN 9
            begin 2 = 3      # LSN 10
            put 3 20 3 = 0   # LSN 11
            commit 3 = 0     # LSN 12; 2 has 20 by its child
            begin 2 = 4      # LSN 13
            begin 4 = 5      # LSN 14
            put 5 12 5 = 0   # LSN 15
            commit 5 = 0     # LSN 16
            get 4 8 = WAIT   # 4 to 1
            get 1 20 = WAIT  # 1 to 2 to 4 to 1: 4 is the greatest
            state 4 = 4
            state 5 = 3      # COMMITTED, and undone
            state 2 = 1
            state 1 = 2
            log 0 = 18
            entry 17 0 = 3
            entry 17 1 = 4   # by the victim
            entry 17 3 = 15
            entry 18 0 = 5
            entry 18 1 = 4
            key 12 1 = 120
            key 20 1 = 3     # of 3, whose parent lives on
            waits 1 2 = true # still, but in no circle
            abort 2 = 1
            state 3 = 3
            key 20 1 = 200
            resume 1 = 1
            """);
    }

    /** "is never above 300" and "circles are broken": each record takes the place of what ends. */
    private static void circleWhenFull() {
        Script asked = nearlyFull("a circle when full, closed by the older one");
        asked.play("""
            put 2 4 9 = WAIT # no room is needed to wait
            put 1 8 9 = WAIT
            state 2 = 4
            log 2 = 155
            log 3 = 144
            log 4 = 1
            key 8 1 = 80
            resume 1 = FULL
            state 1 = 1      # with an answer other than WAIT and VICTIM
            lock 1 8 = 2
            lock 2 8 = 0
            put 1 8 9 = FULL
            delete 1 8 = FULL
            get 1 8 = 1
            commit 1 = 0
            log 2 = 156
            log 3 = 0
            log 4 = 0
            begin -1 = 3
            """);
        Script victim = nearlyFull("a circle when full, closed by the younger one");
        victim.play("""
            put 1 8 9 = WAIT
            put 2 4 9 = VICTIM
            log 2 = 155
            log 3 = 144
            log 4 = 1
            resume 1 = FULL
            abort 1 = 144
            log 2 = 300
            key 4 1 = 40
            """);
    }

    /** 1 has the key 4, 2 has 8, and there is no room for one more update. */
    private static Script nearlyFull(String name) {
        Script script = new Script(DUE, name);
        script.play(FOUR_KEYS + """
            begin -1 = 1
            begin -1 = 2
            put 2 8 2 = 0
            """);
        for (int i = 0; i < 144; i++) {
            script.play(0, "put", 1, 4, i);
        }
        script.play("log 2 = 153\nlog 3 = 145\nlog 4 = 2");
        return script;
    }

    /** "TO ABORT T" of those that are live, and those that are not, and then "AFTER A CRASH" */
    private static void abortOfMixedFamily() {
        Script.play(DUE, "live, committed and aborted descendants", """
            begin -1 = 0     # LSN 1
            put 0 0 1 = 0    # LSN 2
            begin 0 = 1      # LSN 3
            put 1 4 1 = 0    # LSN 4
            begin 1 = 2      # LSN 5
            put 2 8 1 = 0    # LSN 6
            begin 2 = 3      # LSN 7
            put 3 12 1 = 0   # LSN 8
            commit 3 = 0     # LSN 9
            abort 2 = 2      # LSN 10, 11 and 12
            entry 10 1 = 2
            entry 10 3 = 8   # of one that is COMMITTED
            entry 11 1 = 2
            entry 11 3 = 6
            entry 12 0 = 5
            entry 12 1 = 2
            begin 1 = 4      # LSN 13
            put 4 4 2 = 0    # LSN 14
            commit 4 = 0     # LSN 15
            begin 1 = 5      # LSN 16
            put 5 16 1 = 0   # LSN 17
            begin 5 = 6      # LSN 18
            log 3 = 4
            abort 1 = 3      # those of 5, 4 and 1; those of 2 and 3 are undone already
            entry 19 1 = 1
            entry 19 3 = 17
            entry 20 3 = 14
            entry 20 5 = 1   # as it was before that one
            entry 21 1 = 1
            entry 21 3 = 4
            entry 21 4 = 0
            entry 22 0 = 5
            entry 22 1 = 6
            entry 23 1 = 5
            entry 24 1 = 1
            log 0 = 24       # none for 2, 3 and 4
            log 3 = 1
            lock 1 4 = 0
            lock 1 32 = 0
            lock 0 0 = 2
            lock 0 4 = 0
            commit 0 = 0
            crash 0 = 0
            log 0 = 25
            state 0 = 3
            state 1 = 4
            state 2 = 4
            state 3 = 3      # its top is COMMITTED, so it stays as it was
            state 4 = 3
            state 5 = 4
            state 6 = 4
            key 0 1 = 1
            key 4 0 = 0
            key 8 0 = 0
            key 12 0 = 0
            key 16 0 = 0
            """);
    }

    /** "of t and its descendants", "with an LSN above point", "(locks stay)" */
    private static void rollbackOverCommittedChildren() {
        Script.play(DUE, "rollback over children that have committed", """
            begin -1 = 0     # LSN 1
            put 0 0 1 = 0    # LSN 2
            begin 0 = 1      # LSN 3
            put 1 0 2 = 0    # LSN 4
            begin 1 = 2      # LSN 5
            put 2 4 2 = 0    # LSN 6
            commit 2 = 0     # LSN 7
            put 1 0 3 = 0    # LSN 8
            rollback 0 2 = BUSY
            rollback 1 5 = 2
            entry 9 1 = 1
            entry 9 3 = 8
            entry 9 5 = 2
            entry 10 1 = 1   # by t, not by the child
            entry 10 3 = 6
            entry 10 4 = 0
            lock 1 4 = 2     # got from the child
            log 3 = 2
            commit 1 = 0     # LSN 11
            lock 0 4 = 2
            rollback 0 2 = 1
            entry 12 1 = 0
            entry 12 3 = 4   # of the child; 6 and 8 are undone already
            entry 12 5 = 1
            rollback 0 2 = 0
            rollback 0 0 = NONE
            rollback 0 1 = 1
            key 0 0 = 0
            lock 0 0 = 2
            log 3 = 0
            abort 0 = 0
            log 0 = 14
            """);
    }

    /** "all live descendants and T are ABORTED", but after a crash "each transaction" of that top */
    private static void statesUnderAnAbortedTop() {
        Script.play(DUE, "a committed child of an aborted top", """
            begin -1 = 0
            begin 0 = 1
            put 1 0 1 = 0
            commit 1 = 0
            abort 0 = 1
            state 0 = 4
            state 1 = 3      # it was not live
            begin -1 = 2
            commit 2 = 0     # all 8 records are flushed
            state 1 = 3
            crash 0 = 0      # there is an UNDO of it in the log
            state 0 = 4
            state 1 = 4
            state 2 = 3
            key 0 0 = 0
            log 0 = 8
            """);
    }

    /** "by an UNDO by T" of an abort, "by an UNDO by its top" after a crash */
    private static void undoByWhom() {
        String aborted = """
            new 8
            begin -1 = 0     # LSN 1
            begin 0 = 1      # LSN 2
            put 1 0 7 = 0    # LSN 3
            write 0 = true
            log 1 = 3
            abort 1 = 1      # LSN 4 and 5
            entry 4 1 = 1
            """;
        Script.play(DUE, "the UNDO is lost", aborted + """
            crash 0 = 1
            entry 4 0 = 3
            entry 4 1 = 0
            entry 4 3 = 3
            entry 5 0 = NONE
            log 0 = 4
            state 0 = 4
            state 1 = 4
            frame 0 = 1
            key 0 0 = 0
            key 0 2 = 1
            """);
        Script.play(DUE, "the UNDO is flushed", aborted + """
            crash 1 = 0
            entry 4 1 = 1
            entry 5 0 = NONE
            log 0 = 4
            page 0 = 4
            key 0 0 = 0
            state 1 = 4      # though its ABORTED record is lost
            """);
    }

    /** "of which there is no UNDO": in the log as the crash leaves it. */
    private static void rolledBackThenLost() {
        String back = """
            new 8
            begin -1 = 0     # LSN 1
            put 0 0 1 = 0    # LSN 2
            put 0 0 2 = 0    # LSN 3
            write 0 = true
            rollback 0 2 = 1 # LSN 4
            put 0 0 9 = 0    # LSN 5
            """;
        Script.play(DUE, "the UNDO of a rollback is lost", back + """
            crash 0 = 2
            entry 4 3 = 3
            entry 4 5 = 1
            entry 5 3 = 2
            entry 5 4 = 0
            log 0 = 5
            """);
        Script.play(DUE, "the update behind it is lost", back + """
            crash 1 = 1
            entry 4 3 = 3
            entry 5 3 = 2
            log 0 = 5
            """);
        Script.play(DUE, "nothing is lost", back + """
            crash 2 = 2
            entry 6 3 = 5
            entry 6 5 = 1
            entry 7 3 = 2
            entry 7 4 = 0
            log 0 = 7
            """);
    }

    /** "the log ends behind FLUSHED" and "the LSNs 1, 2, ..": what is lost leaves no gap. */
    private static void lsnsGivenAgain() {
        Script.play(DUE, "LSNs that are given again", """
            begin -1 = 0     # LSN 1
            put 0 0 1 = 0    # LSN 2
            commit 0 = 0     # LSN 3
            begin -1 = 1     # LSN 4
            put 1 4 1 = 0    # LSN 5
            put 1 8 1 = 0    # LSN 6
            crash 1 = 0
            log 0 = 4
            page 1 = 0
            begin -1 = 2     # LSN 5
            entry 5 0 = 1
            entry 5 1 = 2
            save 2 = 5
            put 2 8 7 = 0    # LSN 6
            entry 6 0 = 2
            entry 6 3 = 0
            page 2 = 6
            rollback 2 4 = NONE
            rollback 2 5 = 1 # LSN 7
            entry 7 3 = 6
            log 3 = 0
            commit 2 = 0
            crash 0 = 0
            log 0 = 8
            key 8 0 = 0
            key 0 1 = 1
            """);
    }

    /** "when it is dirty it is WRITTEN before" and "FLUSHED becomes its LSN": also after a crash. */
    private static void forcedOutThenUndone() {
        Script.play(DUE, "one frame, nothing committed", """
            new 1
            begin -1 = 0     # LSN 1
            put 0 0 1 = 0    # LSN 2
            put 0 4 1 = 0    # LSN 3; page 0 is written
            log 1 = 2
            get 0 8 = 0      # page 1 is written
            log 1 = 3
            crash 0 = 2      # LSN 4 and 5; page 1 is written with LSN 4
            log 0 = 5
            log 1 = 5
            frame 0 = 1
            page 0 = 5
            page 1 = 4
            key 0 0 = 0
            key 0 2 = 1
            key 4 0 = 0
            key 4 2 = 0
            """);
    }

    /** "empties the log" and "for each UPDATE and UNDO in the log" */
    private static void archivedThenCrashed() {
        Script.play(DUE, "a crash with nothing in the log but what is new", """
            begin -1 = 0     # LSN 1
            put 0 0 5 = 0    # LSN 2
            commit 0 = 0     # LSN 3
            archive = 1
            begin -1 = 1     # LSN 4
            put 1 0 6 = 0    # LSN 5
            crash 0 = 0
            log 0 = 3
            log 2 = 0
            frame 0 = NONE
            key 0 1 = 5
            state 0 = 3      # COMMITTED, though its COMMIT is gone
            begin -1 = 2     # LSN 4
            put 2 0 6 = 0    # LSN 5
            write 0 = true
            crash 0 = 1      # LSN 6
            entry 6 1 = 2
            entry 6 3 = 5
            entry 6 5 = 5
            log 2 = 3
            key 0 1 = 5
            key 0 3 = 6
            page 0 = 6
            state 0 = 3
            """);
    }
}
