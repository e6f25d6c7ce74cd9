/** Promises 1, 2, 9, 10, 16 and 17: a new object, begin, commit, abort, state, parent. */
final class TransactionTest {
    private static final Due DUE = new Due("TransactionTest");

    public static void main(String[] args) {
        newObject();
        framesAreOneToEight();
        begin();
        beginWithinOthers();
        atMostSixty();
        commitOfTop();
        commitOfChild();
        commitPassesAllItems();
        abortUndoes();
        abortWithinAndRefused();
        stateAndParent();
        DUE.end();
    }

    private static void newObject() {
        Script.play(DUE, "1 new object", """
            new 4
            value = 0
            log 0 = 0
            log 1 = 0
            log 2 = 0
            log 3 = 0
            log 4 = 0
            state 0 = NONE
            entry 1 0 = NONE
            frame 0 = NONE
            page 0 = 0
            page 7 = 0
            key 0 0 = 0
            key 31 1 = 0
            key 0 2 = 0
            key 31 3 = 0
            archive = 0
            crash 0 = 0
            """);
    }

    private static void framesAreOneToEight() {
        int[] asked = {Integer.MIN_VALUE, -1, 0, 1, 2, 7, 8, 9, Integer.MAX_VALUE};
        int[] made = {1, 1, 1, 1, 2, 7, 8, 8, 8};
        for (int i = 0; i < asked.length; i++) {
            NestedStore store = new NestedStore(asked[i]);
            store.begin(-1);
            store.scan(0, 0, 31);
            DUE.is("1 last of the frames of " + asked[i], store.frame(made[i] - 1), (8 - made[i]) * 2);
            DUE.is("1 no more frames of " + asked[i], store.frame(made[i]), NestedStore.NONE);
        }
    }

    private static void begin() {
        Script.play(DUE, "2 begin", """
            begin -1 = 0
            state 0 = 1
            entry 1 0 = 1
            entry 1 1 = 0
            entry 1 2 = -1   # no parent
            entry 1 3 = 0
            entry 1 4 = 0
            entry 1 5 = 0
            begin 0 = 1
            entry 2 0 = 1
            entry 2 1 = 1
            entry 2 2 = 0    # the parent
            begin -1 = 2
            begin 2 = 3
            entry 4 2 = 2
            log 0 = 4
            log 1 = 0        # a BEGIN is not flushed
            log 4 = 4
            begin -2 = NONE
            begin 4 = NONE   # no such transaction
            begin 60 = NONE
            begin 2147483647 = NONE
            begin -2147483648 = NONE
            log 0 = 4        # what is refused leaves no record
            state 4 = NONE
            """);
    }

    private static void beginWithinOthers() {
        Script.play(DUE, "2 begin within others", """
            begin -1 = 0
            begin 0 = 1
            begin 0 = 2      # a second child beside the first
            begin 1 = 3
            begin 3 = 4      # depth 4
            begin 4 = NONE   # would be depth 5
            begin 3 = 5
            commit 4 = 0
            begin 4 = NONE   # committed
            abort 2 = 0
            begin 2 = NONE   # aborted
            new 4
            begin -1 = 0
            begin -1 = 1
            put 0 0 1 = 0
            get 1 0 = WAIT
            begin 1 = NONE   # waiting
            begin 0 = 2
            """);
    }

    private static void atMostSixty() {
        NestedStore store = new NestedStore(2);
        for (int t = 0; t < 60; t++) {
            DUE.is("2 begin " + t, store.begin(-1), t);
            DUE.is("2 commit " + t, store.commit(t), 0);
        }
        DUE.is("2 the 61st", store.begin(-1), NestedStore.NONE);
        DUE.is("2 no record of it", store.log(0), 120);
        DUE.is("2 archive", store.archive(), 0);
        DUE.is("2 the 61st after archive", store.begin(-1), NestedStore.NONE);
        DUE.is("2 crash", store.crash(0), 0);
        DUE.is("2 the 61st after a crash", store.begin(-1), NestedStore.NONE);
        DUE.is("2 state of the last", store.state(59), 3);
        DUE.is("2 state of none", store.state(60), NestedStore.NONE);
    }

    private static void commitOfTop() {
        Script.play(DUE, "9 commit of a top one", """
            begin -1 = 0
            put 0 5 50 = 0
            log 1 = 0
            commit 0 = 0
            state 0 = 3
            entry 3 0 = 4
            entry 3 1 = 0
            entry 3 2 = 0
            entry 3 3 = 0
            entry 3 4 = 0
            entry 3 5 = 0
            log 0 = 3
            log 1 = 3        # flushed
            log 3 = 0        # its update is open no more
            log 4 = 0
            lock 0 5 = 0
            lock 0 32 = 0
            key 5 2 = 0      # flushed is the log, not the page
            commit 0 = NONE
            commit 1 = NONE
            commit -1 = NONE
            log 0 = 3
            begin -1 = 1
            begin 1 = 2
            commit 1 = BUSY
            state 1 = 1
            abort 2 = 0
            commit 1 = 0     # an aborted child is not live
            """);
    }

    private static void commitOfChild() {
        Script.play(DUE, "9 commit of a child", """
            begin -1 = 0
            put 0 5 50 = 0
            put 0 8 80 = 0
            put 0 9 90 = 0
            commit 0 = 0
            begin -1 = 1
            get 1 5 = 1
            put 1 8 81 = 0
            begin 1 = 2
            put 2 5 51 = 0
            get 2 8 = 1
            get 2 9 = 1
            lock 2 8 = 1
            log 1 = 5
            commit 2 = 0
            log 1 = 5        # only a top one flushes
            log 3 = 2        # its update stays open
            state 2 = 3
            lock 1 5 = 2     # the stronger was the child's
            lock 1 8 = 2     # the stronger was the parent's
            lock 1 9 = 1
            lock 2 5 = 0
            lock 2 8 = 0
            lock 2 9 = 0
            commit 1 = 0
            lock 1 5 = 0
            new 4
            begin -1 = 0
            begin -1 = 1
            put 0 1 1 = 0
            put 1 1 2 = WAIT
            commit 1 = NONE  # waiting
            state 1 = 2
            """);
    }

    private static void commitPassesAllItems() {
        NestedStore store = new NestedStore(8);
        store.begin(-1);
        store.begin(0);
        for (int k = 0; k < 32; k++) {
            DUE.is("9 put " + k, store.put(1, k, k), 0);
        }
        DUE.is("9 commit", store.commit(1), 0);
        for (int item = 0; item <= 32; item++) {
            DUE.is("9 lock of the parent on " + item, store.lock(0, item), 2);
            DUE.is("9 lock of the child on " + item, store.lock(1, item), 0);
        }
    }

    private static void abortUndoes() {
        Script.play(DUE, "10 abort", """
            begin -1 = 0
            put 0 1 10 = 0   # LSN 2
            begin 0 = 1
            put 1 1 11 = 0   # LSN 4
            put 1 2 22 = 0   # LSN 5
            begin 1 = 2
            put 2 1 12 = 0   # LSN 7
            commit 2 = 0
            begin 1 = 3
            put 3 3 33 = 0   # LSN 10
            begin 0 = 4
            log 3 = 5
            abort 1 = 4      # with live children; those of 2, committed, too
            entry 12 0 = 3
            entry 12 1 = 1   # by 1
            entry 12 2 = 3
            entry 12 3 = 10  # the greatest LSN first
            entry 12 4 = 0
            entry 12 5 = 0
            entry 13 1 = 1
            entry 13 2 = 1
            entry 13 3 = 7
            entry 13 4 = 1
            entry 13 5 = 11  # as it was before that update
            entry 14 3 = 5
            entry 15 3 = 4
            entry 15 5 = 10
            entry 16 0 = 5   # then the ABORTED ones, the greatest number first
            entry 16 1 = 3
            entry 16 2 = 0
            entry 16 3 = 0
            entry 17 0 = 5
            entry 17 1 = 1
            log 0 = 17       # none for 2, which was not live
            log 1 = 0
            log 3 = 1
            log 4 = 2
            state 0 = 1
            state 1 = 4
            state 2 = 3      # committed stays committed
            state 3 = 4
            state 4 = 1      # a sibling
            key 1 1 = 10
            key 2 0 = 0
            key 3 0 = 0
            lock 1 1 = 0
            lock 1 2 = 0
            lock 3 3 = 0
            lock 0 1 = 2
            """);
    }

    private static void abortWithinAndRefused() {
        Script.play(DUE, "10 abort of others", """
            begin -1 = 0
            put 0 1 10 = 0
            begin -1 = 1
            get 1 1 = WAIT
            abort 1 = 0      # a waiting one
            state 1 = 4
            waits 1 0 = false
            abort 1 = NONE
            abort 2 = NONE
            abort -1 = NONE
            delete 0 1 = 1
            put 0 1 11 = 0
            abort 0 = 3
            key 1 0 = 0
            abort 0 = NONE
            begin -1 = 2
            commit 2 = 0
            abort 2 = NONE
            """);
    }

    private static void stateAndParent() {
        Script.play(DUE, "16 state, 17 parent", """
            begin -1 = 0
            begin 0 = 1
            begin 1 = 2
            begin -1 = 3
            put 2 7 1 = 0
            get 3 7 = WAIT
            state 0 = 1
            state 3 = 2
            commit 2 = 0
            state 2 = 3
            abort 3 = 0
            state 3 = 4
            state 4 = NONE
            state -1 = NONE
            state 2147483647 = NONE
            state -2147483648 = NONE
            parent 0 = NONE
            parent 1 = 0
            parent 2 = 1     # committed, too
            parent 3 = NONE
            parent 4 = NONE
            parent -1 = NONE
            parent 2147483647 = NONE
            parent -2147483648 = NONE
            crash 0 = 0
            state 0 = 4
            state 2 = 4      # its top is not committed
            parent 2 = 1
            """);
    }
}
