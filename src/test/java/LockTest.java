/** Promises 18 and 19, lock and waits, and the circles of those that wait. */
final class LockTest {
    private static final Due DUE = new Due("LockTest");

    public static void main(String[] args) {
        lock();
        ancestorsAreNoHindrance();
        waits();
        waitsNow();
        circleOfTwo();
        circleLeavesTheAskerWaiting();
        circleThroughChildren();
        circlesOfSeveralRounds();
        circleOfFamily();
        circleOfTheFirst();
        longCircle();
        outsideOfTheCircle();
        victimIsUndone();
        DUE.end();
    }

    private static void lock() {
        Script.play(DUE, "18 lock", """
            begin -1 = 0
            lock 0 0 = 0
            lock 0 32 = 0
            put 0 0 1 = 0
            lock 0 0 = 2
            lock 0 32 = 2
            lock 0 31 = 0
            lock 0 33 = NONE
            lock 0 -1 = NONE
            lock 0 2147483647 = NONE
            lock 0 -2147483648 = NONE
            lock 1 0 = NONE
            lock -1 0 = NONE
            lock 2147483647 0 = NONE
            lock -2147483648 0 = NONE
            get 0 0 = 1
            lock 0 0 = 2     # the stronger stays
            commit 0 = 0
            lock 0 0 = 0
            begin -1 = 1
            get 1 0 = 1
            lock 1 0 = 1
            put 1 0 2 = 0
            lock 1 0 = 2
            crash 0 = 0
            lock 1 0 = 0
            """);
    }

    private static void ancestorsAreNoHindrance() {
        Script.play(DUE, "18 locks of ancestors", """
            begin -1 = 0
            put 0 4 1 = 0
            begin 0 = 1
            begin 1 = 2
            begin 2 = 3
            put 3 4 2 = 0     # its ancestor has it exclusive
            lock 0 4 = 2
            lock 3 4 = 2
            begin 2 = 4
            get 4 4 = WAIT    # its sibling has it
            waits 4 3 = true
            waits 4 0 = false # an ancestor
            commit 3 = 0
            lock 2 4 = 2
            resume 4 = 1      # left to the parent of both
            value = 2
            abort 4 = 0
            get 2 4 = 1
            begin 1 = 5
            get 5 4 = WAIT    # for 2, which is no ancestor of 5
            waits 5 2 = true
            commit 2 = 0
            resume 5 = 1
            """);
    }

    private static void waits() {
        Script.play(DUE, "19 waits", """
            begin -1 = 0
            put 0 4 1 = 0
            commit 0 = 0
            begin -1 = 1
            begin -1 = 2
            begin -1 = 3
            get 1 4 = 1
            get 2 4 = 1
            put 3 4 2 = WAIT
            waits 3 1 = true
            waits 3 2 = true
            waits 3 0 = false
            waits 3 3 = false
            waits 1 3 = false
            waits 3 4 = false
            waits 3 -1 = false
            waits 3 64 = false
            waits 3 65 = false
            waits 3 2147483647 = false
            waits 4 1 = false
            waits -1 1 = false
            waits 64 1 = false
            waits -2147483648 -2147483648 = false
            commit 1 = 0
            waits 3 1 = false
            waits 3 2 = true
            abort 2 = 0
            waits 3 2 = false
            state 3 = 2       # still waiting, for none
            abort 3 = 0
            """);
    }

    private static void waitsNow() {
        Script.play(DUE, "19 waits now", """
            begin -1 = 0
            begin 0 = 1
            put 1 4 1 = 0
            begin -1 = 2
            put 2 4 2 = WAIT
            waits 2 1 = true
            waits 2 0 = false
            commit 1 = 0
            waits 2 1 = false
            waits 2 0 = true  # the lock was left to the parent
            resume 2 = WAIT
            abort 0 = 1
            waits 2 0 = false
            begin -1 = 3
            get 3 9 = 0
            waits 2 3 = true  # 4 is absent now: END is the first that it needs
            resume 2 = WAIT
            commit 3 = 0
            resume 2 = 0
            """);
    }

    private static void circleOfTwo() {
        Script.play(DUE, "circle of two", """
            begin -1 = 0
            put 0 1 1 = 0
            put 0 5 5 = 0
            commit 0 = 0
            begin -1 = 1
            begin -1 = 2
            put 1 1 10 = 0
            put 2 5 50 = 0
            get 1 5 = WAIT
            state 1 = 2
            get 2 1 = VICTIM  # the greatest number
            state 2 = 4
            state 1 = 2
            key 5 1 = 5
            entry 9 0 = 3
            entry 9 1 = 2
            entry 9 3 = 8
            entry 10 0 = 5
            entry 10 1 = 2
            lock 2 5 = 0
            resume 1 = 1
            value = 5
            resume 2 = NONE
            """);
    }

    private static void circleLeavesTheAskerWaiting() {
        Script.play(DUE, "circle with a greater one", """
            begin -1 = 0
            put 0 1 1 = 0
            put 0 5 5 = 0
            commit 0 = 0
            begin -1 = 1
            begin -1 = 2
            put 1 1 10 = 0
            put 2 5 50 = 0
            get 2 1 = WAIT
            get 1 5 = WAIT    # not by 1: 2 is aborted, and 1 still has to ask again
            state 2 = 4
            state 1 = 2
            waits 1 2 = false
            resume 1 = 1
            value = 5
            """);
    }

    private static void circleThroughChildren() {
        Script.play(DUE, "circle through children", """
            begin -1 = 0
            put 0 1 1 = 0
            put 0 5 5 = 0
            commit 0 = 0
            begin -1 = 1
            put 1 1 10 = 0
            begin -1 = 2
            put 2 5 50 = 0
            get 2 1 = WAIT    # for 1
            begin 1 = 3
            begin 3 = 4
            get 4 5 = VICTIM  # for 2, which waits for 1, which has 3, which has 4
            state 4 = 4
            state 3 = 1
            state 2 = 2
            new 4
            begin -1 = 0
            put 0 1 1 = 0
            put 0 5 5 = 0
            commit 0 = 0
            begin -1 = 1
            put 1 1 10 = 0
            begin 1 = 2
            begin -1 = 3
            put 3 5 50 = 0
            begin 3 = 4
            get 4 1 = WAIT
            get 2 5 = WAIT    # for 3, which has 4, which waits for 1, which has 2
            state 4 = 4       # the greatest of the circle: only it is aborted
            state 3 = 1
            waits 2 3 = true
            commit 3 = 0
            resume 2 = 1
            value = 50
            """);
    }

    private static void circlesOfSeveralRounds() {
        Script.play(DUE, "circles of several rounds", """
            begin -1 = 0
            put 0 1 1 = 0
            put 0 5 5 = 0
            commit 0 = 0
            begin -1 = 1
            begin -1 = 2
            begin -1 = 3
            put 1 1 10 = 0
            get 2 5 = 1
            get 3 5 = 1
            get 2 1 = WAIT
            get 3 1 = WAIT
            put 1 5 50 = WAIT # both lead back to it
            state 3 = 4
            state 2 = 4
            state 1 = 2
            entry 9 0 = 5
            entry 9 1 = 3     # 3 was the first
            entry 10 1 = 2
            log 0 = 10
            resume 1 = 0
            """);
    }

    private static void circleOfFamily() {
        Script.play(DUE, "circle of siblings", """
            begin -1 = 0
            put 0 1 1 = 0
            put 0 5 5 = 0
            begin 0 = 1
            begin 0 = 2
            begin 2 = 3
            put 1 1 10 = 0
            put 3 5 50 = 0
            get 3 1 = WAIT
            put 1 5 11 = WAIT
            state 3 = 4       # 1 waited for it and it for 1
            state 2 = 1
            key 5 1 = 5
            resume 1 = 0
            commit 1 = 0
            get 2 5 = 1
            value = 11
            """);
    }

    private static void circleOfTheFirst() {
        Script.play(DUE, "circle of the first", """
            begin -1 = 0
            begin -1 = 1
            get 0 4 = 0
            get 1 4 = 0
            put 1 4 1 = WAIT  # both have END
            put 0 4 1 = WAIT
            state 1 = 4
            resume 0 = 0
            new 4
            begin -1 = 0
            begin -1 = 1
            get 0 4 = 0
            get 1 4 = 0
            put 0 4 1 = WAIT
            put 1 4 1 = VICTIM
            state 0 = 2
            resume 0 = 0
            new 4
            begin -1 = 0
            begin -1 = 1
            put 1 1 1 = 0
            put 1 2 2 = 0
            put 1 3 3 = 0
            commit 1 = 0
            begin -1 = 2
            begin -1 = 3
            put 0 1 0 = 0
            put 2 2 0 = 0
            put 3 3 0 = 0
            get 3 1 = WAIT
            get 0 2 = WAIT
            get 2 3 = WAIT    # 2, 3, 0, 2
            state 3 = 4
            state 2 = 2
            state 0 = 2
            """);
    }

    /** The numbers fall along the circle, then rise, and the last to ask closes it. */
    private static void longCircle() {
        String six = """
            new 8
            begin -1 = 0
            put 0 1 1 = 0
            put 0 2 2 = 0
            put 0 3 3 = 0
            put 0 4 4 = 0
            put 0 5 5 = 0
            commit 0 = 0
            begin -1 = 1
            begin -1 = 2
            begin -1 = 3
            begin -1 = 4
            begin -1 = 5
            put 1 1 0 = 0
            put 2 2 0 = 0
            put 3 3 0 = 0
            put 4 4 0 = 0
            put 5 5 0 = 0
            """;
        Script.play(DUE, "long circle, falling", six + """
            get 5 4 = WAIT
            get 4 3 = WAIT
            get 3 2 = WAIT
            get 2 1 = WAIT
            get 1 5 = WAIT
            state 5 = 4
            state 4 = 2
            state 3 = 2
            state 2 = 2
            resume 1 = 1
            """);
        Script.play(DUE, "long circle, rising", six + """
            get 1 2 = WAIT
            get 2 3 = WAIT
            get 4 5 = WAIT
            get 5 1 = WAIT
            get 3 4 = WAIT
            state 5 = 4
            state 1 = 2
            state 2 = 2
            state 4 = 2
            resume 4 = 1
            """);
    }

    private static void outsideOfTheCircle() {
        Script.play(DUE, "outside of the circle", """
            begin -1 = 0
            put 0 1 1 = 0
            put 0 5 5 = 0
            put 0 9 9 = 0
            commit 0 = 0
            begin -1 = 1
            begin -1 = 2
            begin -1 = 3
            begin -1 = 4
            put 1 1 10 = 0
            get 2 5 = 1
            get 4 5 = 1
            get 3 1 = WAIT    # leads to the circle, but not back
            get 2 1 = WAIT
            put 1 5 50 = WAIT # 2 is aborted; 4 is waited for, but leads nowhere
            state 1 = 2
            state 2 = 4
            state 3 = 2
            state 4 = 1
            waits 1 4 = true
            """);
    }

    private static void victimIsUndone() {
        Script.play(DUE, "the victim's descendants", """
            begin -1 = 0
            put 0 1 1 = 0
            put 0 5 5 = 0
            commit 0 = 0
            begin -1 = 1
            put 1 1 10 = 0
            begin -1 = 2
            begin 2 = 3
            put 3 5 50 = 0
            put 3 6 60 = 0
            commit 3 = 0
            get 2 1 = WAIT
            get 1 5 = WAIT
            state 2 = 4
            state 3 = 3
            key 5 1 = 5
            key 6 0 = 0
            entry 12 1 = 2
            entry 12 3 = 10   # 6, the later, first
            entry 13 3 = 9
            entry 14 0 = 5
            log 0 = 14
            log 3 = 1
            """);
    }
}
