/** The sentences of Terms on circles, aborting, committing and crashes, each at its limits. */
final class EndTermsTest {
    private static final Due DUE = new Due("EndTermsTest");
    private static final String THREE_KEYS = """
        new 8
        begin -1 = 0
        put 0 4 1 = 0
        put 0 8 1 = 0
        put 0 12 1 = 0
        commit 0 = 0
        """;

    public static void main(String[] args) {
        noCircle();
        greatestOfTwo();
        greatestOfThree();
        greatestIsAParent();
        onlyThoseThatLeadBack();
        waitsForNone();
        activeOnesWaitForNone();
        asLongAsInACircle();
        whatIsUndoneChangesTheWaits();
        circleOfTheFirst();
        circleThroughOneOfManyChildren();
        circleOfTheLastOfSixty();
        longestCircle(1, 1);
        longestCircle(1, 32);
        longestCircle(1, 17);
        longestCircle(31, 1);
        longestCircle(31, 32);
        longestCircle(31, 17);
        abortOfOne();
        abortOfFamily();
        abortOfFamilyInOrder();
        abortLeavesOthers();
        abortOfSixty();
        for (int parents = 0; parents <= 2; parents++) {
            for (int childs = 0; childs <= 2; childs++) {
                strongerOfBoth(parents, childs);
            }
        }
        commitAtEachDepth();
        redoBelowAtAndAbove();
        undoneAfterACrash();
        undosAtTheEndOfTheLog();
        statesAfterACrash();
        nothingIsCommitted();
        committedAtTheEndOfTheLog();
        flushedAfterACrash();
        framesAfterACrash();
        crashWritesWhatLeaves();
        DUE.end();
    }

    /** "it can come back to itself by one or more such steps": a chain is no circle. */
    private static void noCircle() {
        Script.play(DUE, "no circle", THREE_KEYS + """
            begin -1 = 1
            begin -1 = 2
            begin -1 = 3
            put 1 4 2 = 0
            put 2 8 2 = 0
            get 2 4 = WAIT   # 2 to 1
            get 3 8 = WAIT   # 3 to 2 to 1
            state 1 = 1
            state 2 = 2
            state 3 = 2
            begin 1 = 4
            get 4 12 = 1     # 1 to 4
            resume 3 = WAIT
            log 4 = 4
            """);
    }

    /** "the one with the greatest number is aborted" and "VICTIM if T was aborted by that, else WAIT" */
    private static void greatestOfTwo() {
        String two = THREE_KEYS + """
            begin -1 = 1
            begin -1 = 2
            put 1 4 2 = 0
            put 2 8 2 = 0
            """;
        Script.play(DUE, "the greater one asks last", two + """
            put 1 8 3 = WAIT
            put 2 4 3 = VICTIM
            state 1 = 2
            state 2 = 4
            key 8 1 = 1      # undone
            lock 2 8 = 0
            resume 1 = 0
            """);
        Script.play(DUE, "the smaller one asks last", two + """
            put 2 4 3 = WAIT
            put 1 8 3 = WAIT
            state 1 = 2      # not asked again by itself
            state 2 = 4
            waits 1 2 = false
            resume 1 = 0
            key 8 1 = 3
            """);
    }

    private static void greatestOfThree() {
        String three = THREE_KEYS + """
            begin -1 = 1
            begin -1 = 2
            begin -1 = 3
            put 1 4 2 = 0
            put 2 8 2 = 0
            put 3 12 2 = 0
            """;
        int[][] orders = {{1, 2, 3}, {2, 3, 1}, {3, 1, 2}};
        for (int[] order : orders) {
            Script script = new Script(DUE, order[2] + " closes the circle");
            script.play(three);
            for (int i = 0; i < 3; i++) {
                int t = order[i];
                // 1 asks for what 2 has, 2 for what 3 has, 3 for what 1 has.
                int due = i < 2 || t != 3 ? -2 : -3;
                script.play(due, "get", t, t == 3 ? 4 : 4 * t + 4);
            }
            script.play("state 3 = 4\nstate 1 = 2\nstate 2 = 2\nresume 2 = 1\nkey 12 1 = 1");
        }
    }

    private static void greatestIsAParent() {
        Script.play(DUE, "a child of each", THREE_KEYS + """
            begin -1 = 1
            put 1 4 2 = 0
            begin -1 = 2
            put 2 8 2 = 0
            begin 1 = 3
            begin 2 = 4
            get 4 4 = WAIT   # 4 to 1, which leads to 3
            get 3 8 = WAIT   # 3 to 2, which leads to 4
            state 4 = 4
            state 3 = 2
            state 2 = 1
            """);
        Script.play(DUE, "the parent is younger", THREE_KEYS + """
            begin -1 = 1
            put 1 4 2 = 0
            begin 1 = 2
            begin -1 = 3
            put 3 8 2 = 0
            get 3 4 = WAIT   # 3 to 1, which leads to 2
            get 2 8 = WAIT   # 2 to 3: the greatest is 3, without children
            state 3 = 4
            state 2 = 2
            resume 2 = 1
            """);
    }

    /** "of all transactions that T leads to .. and that lead back to T likewise" */
    private static void onlyThoseThatLeadBack() {
        Script.play(DUE, "only those that lead back", THREE_KEYS + """
            begin -1 = 1
            begin -1 = 2
            begin -1 = 3
            begin -1 = 4
            begin -1 = 5
            put 1 4 2 = 0
            get 2 8 = 1
            get 3 8 = 1
            get 4 4 = WAIT   # leads to 1
            get 2 4 = WAIT
            get 5 12 = 1
            put 1 8 2 = WAIT # to 2, which leads back, and 3, which does not
            state 1 = 2
            state 2 = 4
            state 3 = 1
            state 4 = 2      # it led to T, but T did not lead to it
            state 5 = 1
            waits 1 3 = true
            """);
    }

    /** "to none when it may get all": one that could go on is no part of a circle. */
    private static void waitsForNone() {
        Script.play(DUE, "waits for none", THREE_KEYS + """
            begin -1 = 1
            begin -1 = 2
            begin -1 = 3
            put 1 4 2 = 0
            put 2 8 2 = 0
            get 2 4 = WAIT
            commit 1 = 0     # 2 is WAITING still, but for none
            state 2 = 2
            waits 2 1 = false
            put 3 4 2 = 0
            waits 2 3 = true # now for 3
            abort 3 = 1
            waits 2 3 = false
            begin -1 = 4
            put 4 12 2 = 0
            get 4 8 = WAIT   # for 2, which leads to none
            state 2 = 2
            state 4 = 2
            resume 2 = 1
            """);
    }

    /** An ACTIVE one leads to its live children alone, whatever it asked for before, or never did. */
    private static void activeOnesWaitForNone() {
        Script.play(DUE, "an active one waits for none", """
            begin -1 = 0
            put 0 0 1 = 0
            put 0 4 1 = 0
            commit 0 = 0
            begin -1 = 1
            put 1 0 2 = 0
            begin -1 = 2
            begin 2 = 3
            put 3 4 2 = 0
            commit 3 = 0     # 2 has 4 without a request of its own
            waits 2 1 = false
            get 1 4 = WAIT   # for 2, which leads nowhere
            state 1 = 2
            state 2 = 1
            waits 1 2 = true
            get 2 0 = VICTIM # only now
            resume 1 = 1
            """);
        Script.play(DUE, "one that waited before", THREE_KEYS + """
            begin -1 = 1
            begin -1 = 2
            put 1 4 2 = 0
            get 2 4 = WAIT
            commit 1 = 0
            resume 2 = 1
            put 2 8 2 = 0
            begin -1 = 3
            get 3 12 = 1
            put 3 4 3 = WAIT # for 2, which is ACTIVE
            state 2 = 1
            waits 2 3 = false
            commit 2 = 0
            resume 3 = 0
            """);
    }

    /** "As long as T is live and it can come back to itself": one abort may not do. */
    private static void asLongAsInACircle() {
        Script.play(DUE, "three circles", THREE_KEYS + """
            begin -1 = 1
            begin -1 = 2
            begin -1 = 3
            begin -1 = 4
            put 1 4 2 = 0
            get 2 8 = 1
            get 3 8 = 1
            get 4 8 = 1
            get 2 4 = WAIT
            get 3 4 = WAIT
            get 4 4 = WAIT
            log 0 = 10
            put 1 8 2 = WAIT
            entry 11 0 = 5
            entry 11 1 = 4   # one after the other, the greatest first
            entry 12 1 = 3
            entry 13 1 = 2
            log 0 = 13
            state 1 = 2
            resume 1 = 0
            """);
        Script.play(DUE, "the second round is T's own", THREE_KEYS + """
            begin -1 = 1
            begin -1 = 2
            begin -1 = 3
            get 1 8 = 1
            get 3 8 = 1
            put 2 4 2 = 0
            get 1 4 = WAIT   # 1 to 2
            get 3 4 = WAIT   # 3 to 2
            put 2 8 2 = VICTIM # 3 first, then 2, as 1 is smaller
            state 1 = 2
            state 2 = 4
            state 3 = 4
            entry 10 1 = 3
            entry 11 0 = 3   # the UNDO of 2
            entry 12 1 = 2
            resume 1 = 1
            value = 1
            """);
    }

    /** "in the order of its request as things are now": an undone key is not asked for any more. */
    private static void whatIsUndoneChangesTheWaits() {
        Script.play(DUE, "what is undone changes the waits", """
            begin -1 = 0
            put 0 20 1 = 0
            commit 0 = 0
            begin -1 = 1
            begin -1 = 2
            put 2 10 1 = 0   # 20 and 10
            get 1 20 = WAIT
            get 1 10 = NONE
            abort 2 = 1
            waits 1 2 = false
            resume 1 = 1
            begin -1 = 3
            put 3 25 1 = 0   # END and 25
            begin -1 = 4
            get 4 25 = WAIT
            waits 4 3 = true
            begin -1 = 5
            get 5 26 = WAIT  # END
            rollback 3 8 = NONE # its BEGIN has LSN 9
            save 3 = 12
            rollback 3 9 = 1 # 25 is absent again; 3 still has END
            waits 4 3 = true # so it waits for END now
            lock 4 25 = 0
            commit 3 = 0
            resume 4 = 0
            lock 4 32 = 1
            """);
    }

    private static void circleOfTheFirst() {
        Script.play(DUE, "circle of 0 and 1", """
            begin -1 = 0
            begin -1 = 1
            get 0 5 = 0
            get 1 5 = 0
            put 0 5 1 = WAIT
            put 1 5 1 = VICTIM
            state 0 = 2
            state 1 = 4
            resume 0 = 0
            new 8
            begin -1 = 0
            begin -1 = 1
            get 0 5 = 0
            get 1 5 = 0
            put 1 5 1 = WAIT
            put 0 5 1 = WAIT
            state 0 = 2
            state 1 = 4
            """);
    }

    /** "and a live one to its live children": to all of them. */
    private static void circleThroughOneOfManyChildren() {
        for (int asking = 3; asking <= 5; asking++) {
            Script script = new Script(DUE, "a circle through the child " + asking);
            script.play(THREE_KEYS + """
                begin -1 = 1
                put 1 4 2 = 0
                begin -1 = 2
                put 2 8 2 = 0
                begin 1 = 3
                begin 1 = 4
                begin 1 = 5
                """);
            script.play(-2, "get", asking, 8);  // for 2
            script.play(-2, "get", 2, 4);       // for 1, which leads to its children
            script.play(4, "state", asking);
            script.play("state 1 = 1\nstate 2 = 2\nlog 4 = 4");
        }
        Script.play(DUE, "children that are not live lead nowhere", THREE_KEYS + """
            begin -1 = 1
            begin 1 = 2
            put 2 4 2 = 0
            commit 2 = 0
            begin 1 = 3
            begin -1 = 4
            put 4 8 2 = 0
            get 3 8 = WAIT   # for 4
            abort 3 = 0
            get 4 4 = WAIT   # for 1, which has no live children
            state 4 = 2
            state 1 = 1
            """);
    }

    private static Script sixty(String name) {
        Script script = new Script(DUE, name);
        script.play(THREE_KEYS);
        for (int t = 1; t < 60; t++) {
            script.play(t, "begin", -1);
        }
        return script;
    }

    private static void circleOfTheLastOfSixty() {
        sixty("circle of 58 and 59").play("""
            put 58 4 2 = 0
            put 59 8 2 = 0
            put 58 8 3 = WAIT
            waits 58 59 = true
            put 59 4 3 = VICTIM
            state 58 = 2
            state 59 = 4
            resume 58 = 0
            """);
        sixty("circle of 1 and 59").play("""
            put 1 4 2 = 0
            put 59 8 2 = 0
            put 59 4 3 = WAIT
            waits 59 1 = true
            put 1 8 3 = WAIT
            state 1 = 2
            state 59 = 4
            resume 1 = 0
            """);
    }

    /** As many as there are keys: each has one and waits for that of the one so many steps on. */
    private static void longestCircle(int step, int last) {
        Script script = new Script(DUE, "circle of 32 by steps of " + step + ", closed by " + last);
        script.play("begin -1 = 0");
        for (int k = 0; k < 32; k++) {
            script.play(0, "put", 0, k, k);
        }
        script.play("commit 0 = 0");
        for (int t = 1; t <= 32; t++) {
            script.play(t, "begin", -1);
            script.play(0, "put", t, t - 1, -t);
        }
        for (int t = 1; t <= 32; t++) {
            if (t != last) {
                script.play(-2, "get", t, (t - 1 + step) % 32);
            }
        }
        script.play("log 4 = 32");
        script.play(last == 32 ? -3 : -2, "get", last, (last - 1 + step) % 32);
        script.play("log 4 = 31\nstate 32 = 4\nkey 31 1 = 31");
        int waiting = (32 - 1 - step + 32) % 32 + 1;
        script.play(1, "resume", waiting);      // the one that waited for 32
        script.play("value = 31");
    }

    /** "TO ABORT T": nothing to undo, one to undo. */
    private static void abortOfOne() {
        Script.play(DUE, "abort of one", """
            begin -1 = 0
            abort 0 = 0
            entry 2 0 = 5
            log 0 = 2
            begin -1 = 1
            put 1 0 1 = 0
            abort 1 = 1
            entry 5 0 = 3
            entry 6 0 = 5
            log 0 = 6
            begin -1 = 2
            put 2 0 1 = 0
            rollback 2 7 = 1
            abort 2 = 0      # undone already
            log 0 = 10
            """);
    }

    /** "all live descendants and T are ABORTED; their open updates, and those of all other .." */
    private static void abortOfFamily() {
        Script.play(DUE, "abort of a family", """
            begin -1 = 0
            begin 0 = 1
            begin 1 = 2
            begin 2 = 3
            put 3 0 1 = 0    # LSN 5
            commit 3 = 0     # LSN 6
            begin 2 = 4      # LSN 7
            put 4 1 1 = 0    # LSN 8
            abort 4 = 1      # LSN 9, 10
            put 2 2 1 = 0    # LSN 11
            abort 0 = 2
            entry 12 0 = 3
            entry 12 1 = 0   # by T
            entry 12 3 = 11
            entry 13 1 = 0
            entry 13 3 = 5   # of one that is COMMITTED
            entry 14 0 = 5
            entry 14 1 = 2   # the greatest number first
            entry 15 1 = 1
            entry 16 1 = 0
            log 0 = 16       # none for 3 and 4
            state 0 = 4
            state 1 = 4
            state 2 = 4
            state 3 = 3
            state 4 = 4
            lock 0 0 = 0
            lock 2 0 = 0
            lock 2 2 = 0
            lock 2 32 = 0
            key 0 0 = 0
            key 2 0 = 0
            """);
    }

    private static void abortOfFamilyInOrder() {
        Script.play(DUE, "abort of a waiting family", """
            begin -1 = 0
            begin -1 = 1
            put 1 8 1 = 0
            begin 0 = 2
            begin 0 = 3
            get 2 8 = WAIT
            put 3 0 1 = WAIT
            abort 0 = 0
            entry 6 1 = 3
            entry 7 1 = 2
            entry 8 1 = 0
            state 1 = 1
            state 2 = 4
            state 3 = 4
            log 4 = 1
            waits 2 1 = false
            """);
    }

    private static void abortLeavesOthers() {
        Script.play(DUE, "abort leaves others", THREE_KEYS + """
            begin -1 = 1
            put 1 4 2 = 0
            begin 1 = 2
            begin 1 = 3
            put 2 4 3 = 0
            put 3 8 3 = 0
            abort 2 = 1
            state 1 = 1
            state 3 = 1
            key 4 1 = 2      # that of its parent
            key 8 1 = 3      # that of its sibling
            lock 1 4 = 2
            lock 3 8 = 2
            lock 2 4 = 0
            log 3 = 2
            """);
    }

    private static void abortOfSixty() {
        Script script = new Script(DUE, "abort of 60");
        script.play("begin -1 = 0");
        for (int t = 1; t < 60; t++) {
            script.play(t, "begin", t % 3 == 1 ? 0 : t - 1);
        }
        script.play("""
            put 59 31 1 = 0  # LSN 61
            log 4 = 60
            commit 0 = BUSY
            abort 0 = 1
            log 4 = 0
            log 0 = 122
            entry 62 1 = 0
            entry 62 3 = 61
            lock 59 31 = 0
            """);
        for (int t = 59; t >= 0; t--) {
            script.play(5, "entry", 122 - t, 0);
            script.play(t, "entry", 122 - t, 1);
            script.play(4, "state", t);
        }
    }

    /** "its parent gets all its locks (the stronger of both counts), it has none any more" */
    private static void strongerOfBoth(int parents, int childs) {
        Script script = new Script(DUE, "parent " + parents + ", child " + childs);
        script.play(THREE_KEYS + "begin -1 = 1");
        ask(script, 1, parents);
        script.play("begin 1 = 2");
        ask(script, 2, childs);
        script.play(parents, "lock", 1, 8);
        script.play(childs, "lock", 2, 8);
        script.play("commit 2 = 0");
        script.play(Math.max(parents, childs), "lock", 1, 8);
        script.play(Math.max(parents, childs), "lock", 1, 32);
        script.play("lock 2 8 = 0\nlock 2 32 = 0\nlock 1 4 = 0\ncommit 1 = 0\nlock 1 8 = 0\nlock 1 32 = 0");
    }

    /** Gets a lock on key 8 and on the END. */
    private static void ask(Script script, int t, int mode) {
        if (mode == 1) {
            script.play(1, "get", t, 8);
            script.play(0, "get", t, 31);
        } else if (mode == 2) {
            script.play(0, "put", t, 8, 5);
            script.play(0, "put", t, 30 - t, 5);
            script.play(1, "delete", t, 30 - t);
        }
    }

    /** Its parent gets them, not its top; only a top flushes. */
    private static void commitAtEachDepth() {
        Script.play(DUE, "commit at each depth", """
            begin -1 = 0
            begin 0 = 1
            begin 1 = 2
            begin 2 = 3
            put 3 8 1 = 0
            commit 3 = 0
            lock 2 8 = 2
            lock 1 8 = 0
            lock 0 8 = 0
            log 1 = 0
            commit 2 = 0
            lock 2 8 = 0
            lock 1 8 = 2
            lock 0 8 = 0
            log 1 = 0
            commit 1 = 0
            lock 0 8 = 2
            lock 1 8 = 0
            log 1 = 0
            commit 0 = 0
            lock 0 8 = 0
            log 0 = 9
            log 1 = 9
            """);
    }

    /** "when the page's LSN is below that of the record" */
    private static void redoBelowAtAndAbove() {
        Script.play(DUE, "redo above and at", """
            begin -1 = 0
            put 0 0 1 = 0    # LSN 2
            put 0 0 2 = 0    # LSN 3
            write 0 = true   # the page on the disk has LSN 3
            commit 0 = 0
            crash 0 = 0
            frame 0 = 0      # touched, not changed
            page 0 = 3
            key 0 1 = 2
            """);
        Script.play(DUE, "redo below by one", """
            begin -1 = 0
            put 0 0 1 = 0    # LSN 2
            write 0 = true
            put 0 0 2 = 0    # LSN 3
            commit 0 = 0
            crash 0 = 0
            frame 0 = 1
            page 0 = 3
            key 0 1 = 2
            key 0 3 = 1
            """);
        Script.play(DUE, "redo of a new key, and of one that is gone", """
            begin -1 = 0
            put 0 0 1 = 0
            put 0 31 1 = 0
            commit 0 = 0
            archive = 2
            begin -1 = 1
            put 1 1 1 = 0
            delete 1 31 = 1
            commit 1 = 0
            crash 0 = 0
            key 0 1 = 1
            key 1 0 = 1
            key 1 2 = 0
            key 31 0 = 0
            key 31 2 = 1
            """);
        Script.play(DUE, "redo of an undo", """
            begin -1 = 0
            put 0 0 1 = 0    # LSN 2
            put 0 1 1 = 0    # LSN 3
            write 0 = true
            rollback 0 2 = 1 # LSN 4
            commit 0 = 0
            key 1 2 = 1
            crash 0 = 0
            frame 0 = 1
            page 0 = 4
            key 0 1 = 1
            key 1 0 = 0
            key 1 2 = 1
            """);
    }

    /** "each update in the log of which there is no UNDO and whose top has no COMMIT in the log" */
    private static void undoneAfterACrash() {
        Script.play(DUE, "undone after a crash", """
            begin -1 = 0
            put 0 0 1 = 0    # LSN 2
            begin 0 = 1      # LSN 3
            put 1 4 1 = 0    # LSN 4
            commit 1 = 0     # LSN 5
            put 0 0 2 = 0    # LSN 6
            begin -1 = 2     # LSN 7
            crash 7 = 3
            entry 8 0 = 3
            entry 8 1 = 0
            entry 8 3 = 6    # the greatest LSN first
            entry 9 1 = 0    # by its top
            entry 9 3 = 4
            entry 10 3 = 2
            log 0 = 10
            key 0 0 = 0
            key 4 0 = 0
            crash 0 = 0      # of each there is an UNDO now
            log 0 = 10
            key 0 0 = 0
            """);
    }

    private static void undosAtTheEndOfTheLog() {
        String aborted = """
            new 8
            begin -1 = 0
            put 0 0 1 = 0    # LSN 2
            put 0 4 1 = 0    # LSN 3
            abort 0 = 2      # LSN 4, 5 and 6
            """;
        int[] undone = {0, 0, 1, 2, 1, 0, 0};
        int[] last = {0, 1, 3, 5, 5, 5, 6};
        for (int n = 0; n <= 6; n++) {
            Script script = new Script(DUE, "an abort of which " + n + " records are flushed");
            script.play(aborted);
            script.play(undone[n], "crash", n);
            script.play(last[n], "log", 0);
            script.play(last[n], "log", 1);
            script.play("key 0 0 = 0\nkey 4 0 = 0\nstate 0 = 4\nlog 3 = 0\nbegin -1 = 1");
        }
        Script over = new Script(DUE, "more than there are");
        over.play(aborted + "crash 7 = NONE\ncrash -1 = NONE");
    }

    /** "each transaction whose top is not COMMITTED is ABORTED" */
    private static void statesAfterACrash() {
        Script.play(DUE, "states after a crash", THREE_KEYS + """
            begin 0 = NONE
            begin -1 = 1
            begin 1 = 2
            begin 1 = 3
            begin 1 = 4
            commit 2 = 0
            abort 3 = 0
            begin -1 = 5
            begin 5 = 6
            begin 5 = 7
            commit 6 = 0
            abort 7 = 0
            commit 5 = 0
            begin -1 = 8
            put 8 4 2 = 0
            begin -1 = 9
            get 9 4 = WAIT
            crash 0 = 0
            state 0 = 3
            state 1 = 4
            state 2 = 4      # was COMMITTED, its top was not
            state 3 = 4
            state 4 = 4
            state 5 = 3
            state 6 = 3
            state 7 = 4      # ABORTED with a top that is COMMITTED
            state 8 = 4
            state 9 = 4      # was WAITING
            state 10 = NONE
            parent 6 = 5
            log 4 = 0
            resume 9 = NONE
            """);
    }

    private static void nothingIsCommitted() {
        Script.play(DUE, "nothing is committed", """
            begin -1 = 0
            put 0 0 1 = 0
            put 0 31 1 = 0
            begin 0 = 1
            begin -1 = 2
            crash 0 = 0
            state 0 = 4
            state 1 = 4
            state 2 = 4
            key 0 0 = 0      # what was in a frame alone is gone
            key 0 1 = 0
            key 31 0 = 0
            page 0 = 0
            page 7 = 0
            write 0 = false
            write 7 = false
            frame 0 = NONE
            lock 0 0 = 0
            lock 0 32 = 0
            """);
    }

    /** The COMMIT is the last record that is flushed, or is not there at all. */
    private static void committedAtTheEndOfTheLog() {
        Script.play(DUE, "a commit at the end", """
            begin -1 = 0
            put 0 0 1 = 0
            commit 0 = 0
            log 1 = 3
            crash 0 = 0
            key 0 1 = 1
            log 0 = 3
            """);
        Script.play(DUE, "no commit yet", """
            begin -1 = 0
            put 0 0 1 = 0
            crash 2 = 1
            key 0 0 = 0
            log 0 = 3
            """);
        Script.play(DUE, "a child's commit is none", """
            begin -1 = 0
            begin 0 = 1
            put 1 0 1 = 0
            commit 1 = 0
            crash 4 = 1
            key 0 0 = 0
            entry 5 1 = 0
            entry 5 3 = 3
            """);
    }

    /** "Then FLUSHED is the last LSN." */
    private static void flushedAfterACrash() {
        Script.play(DUE, "FLUSHED after a crash", """
            begin -1 = 0
            put 0 0 1 = 0
            put 0 4 1 = 0
            crash 3 = 2
            log 0 = 5
            log 1 = 5
            crash 1 = NONE
            crash 0 = 0
            log 1 = 5
            begin -1 = 1
            log 1 = 5
            crash 2 = NONE
            crash 1 = 0
            log 0 = 6
            log 1 = 6
            """);
    }

    /** "the frames are empty, nobody has locks" */
    private static void framesAfterACrash() {
        Script.play(DUE, "frames after a crash", """
            new 2
            begin -1 = 0
            put 0 0 1 = 0
            put 0 4 1 = 0
            commit 0 = 0
            begin -1 = 1
            get 1 8 = 0
            get 1 0 = 1
            lock 1 32 = 1
            lock 1 0 = 1
            frame 0 = 0
            crash 0 = 0
            frame 0 = 2      # in the order of the log, not as they were read
            frame 1 = 0      # both were written when they left
            lock 1 32 = 0
            lock 1 0 = 0
            archive = 0
            crash 0 = 0
            frame 0 = NONE   # no record, no touch
            key 0 1 = 1
            key 4 1 = 1
            """);
    }

    private static void crashWritesWhatLeaves() {
        Script.play(DUE, "redo in one frame", """
            new 1
            begin -1 = 0
            put 0 0 1 = 0    # LSN 2
            put 0 1 2 = 0    # LSN 3
            commit 0 = 0     # LSN 4
            begin -1 = 1     # LSN 5
            put 1 4 3 = 0    # LSN 6; page 0 is written
            key 0 2 = 1
            key 4 2 = 0
            crash 2 = 1
            log 0 = 7
            log 1 = 7
            frame 0 = 3      # LSN 6 redone, LSN 7 its UNDO
            page 1 = 7
            page 0 = 3
            key 4 0 = 0
            key 4 2 = 0
            """);
    }
}
