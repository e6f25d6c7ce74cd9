/** Promises 3 to 8: get, put, delete, scan, resume, value. */
final class RequestTest {
    private static final Due DUE = new Due("RequestTest");

    public static void main(String[] args) {
        get();
        getRefused();
        put();
        putLocks();
        delete();
        deleteLocks();
        scan();
        scanWaits();
        resume();
        resumeAsThingsAre();
        resumeMeetsCircle();
        value();
        DUE.end();
    }

    private static void get() {
        Script.play(DUE, "3 get", """
            new 2
            begin -1 = 0
            put 0 5 -1 = 0
            put 0 31 7 = 0
            commit 0 = 0
            begin -1 = 1
            get 1 5 = 1
            value = -1
            lock 1 5 = 1
            lock 1 31 = 0
            get 1 4 = 0
            value = 0
            lock 1 4 = 0
            get 1 6 = 0      # absent: the next item is locked
            lock 1 6 = 0
            lock 1 31 = 1
            lock 1 32 = 0
            get 1 31 = 1
            value = 7
            lock 1 32 = 0
            get 1 12 = 0     # an absent key's page is touched
            frame 0 = 6
            frame 1 = 15
            log 0 = 5        # no record
            begin -1 = 2
            get 2 5 = 1      # shared by two
            value = -1
            new 2
            begin -1 = 0
            get 0 31 = 0
            lock 0 32 = 1    # the END
            """);
    }

    private static void getRefused() {
        Script.play(DUE, "3 get refused", """
            begin -1 = 0
            put 0 5 50 = 0
            get 0 5 = 1
            get 0 -1 = NONE
            get 0 32 = NONE
            get 0 2147483647 = NONE
            get 0 -2147483648 = NONE
            get 1 5 = NONE
            get -1 5 = NONE
            get 60 5 = NONE
            begin 0 = 1
            get 0 5 = BUSY
            get 1 5 = 1      # its ancestor's lock is no hindrance
            lock 1 5 = 1
            begin -1 = 2
            get 2 5 = WAIT
            get 2 9 = NONE   # waiting
            commit 1 = 0
            get 1 5 = NONE
            abort 2 = 0
            get 2 5 = NONE
            """);
    }

    private static void put() {
        Script.play(DUE, "4 put", """
            begin -1 = 0
            put 0 10 1 = 0
            commit 0 = 0
            begin -1 = 1
            put 1 10 2 = 0
            put 1 4 -2147483648 = 0
            put 1 10 2 = 0   # the same value is an update, too
            entry 5 0 = 2
            entry 5 1 = 1
            entry 5 2 = 10
            entry 5 3 = 1    # it was there
            entry 5 4 = 1
            entry 5 5 = 2
            entry 6 2 = 4
            entry 6 3 = 0    # it was not
            entry 6 4 = 1
            entry 6 5 = -2147483648
            entry 7 0 = 2
            log 0 = 7
            log 3 = 3
            key 10 1 = 2
            key 4 1 = -2147483648
            page 2 = 7
            page 1 = 6
            frame 0 = 5
            frame 1 = 3
            put 1 32 0 = NONE
            put 1 -1 0 = NONE
            put 2 1 0 = NONE
            put -1 1 0 = NONE
            put 0 1 0 = NONE
            begin 1 = 2
            put 1 4 4 = BUSY
            put 2 4 4 = 0
            log 0 = 9
            """);
    }

    private static void putLocks() {
        Script.play(DUE, "4 put's locks", """
            begin -1 = 0
            put 0 10 1 = 0
            lock 0 10 = 2
            lock 0 32 = 2
            commit 0 = 0
            begin -1 = 1
            put 1 10 2 = 0
            lock 1 10 = 2
            lock 1 32 = 0    # there already: only itself
            put 1 4 3 = 0
            lock 1 4 = 2
            begin -1 = 2
            put 2 5 1 = WAIT # the next, 10, is not to be had
            lock 2 5 = 0
            waits 2 1 = true
            begin -1 = 3
            put 3 20 1 = 0   # beside it is room
            begin -1 = 4
            get 4 25 = WAIT  # END is kept by 3
            begin 3 = 5
            put 5 22 1 = 0   # not from its child
            lock 5 32 = 2
            new 4
            begin -1 = 0
            put 0 10 1 = 0
            commit 0 = 0
            begin -1 = 1
            begin -1 = 2
            get 1 10 = 1
            get 2 10 = 1
            put 1 10 5 = WAIT # another has it shared
            lock 1 10 = 1
            commit 2 = 0
            resume 1 = 0
            lock 1 10 = 2
            new 4
            begin -1 = 0
            get 0 12 = 0
            lock 0 32 = 1
            begin -1 = 1
            put 1 20 1 = WAIT # the range that 0 read stays as it was
            put 0 20 1 = 0
            """);
    }

    private static void delete() {
        Script.play(DUE, "5 delete", """
            new 1
            begin -1 = 0
            put 0 0 5 = 0
            put 0 1 6 = 0
            delete 0 0 = 1
            key 0 0 = 0
            key 0 1 = 0
            key 1 1 = 6
            entry 4 0 = 2
            entry 4 1 = 0
            entry 4 2 = 0
            entry 4 3 = 1
            entry 4 4 = 0
            entry 4 5 = 0
            page 0 = 4
            frame 0 = 1
            delete 0 0 = 0
            delete 0 31 = 0  # absent: no record, no touch
            frame 0 = 1
            log 0 = 4
            delete 0 32 = NONE
            delete 0 -1 = NONE
            delete 1 1 = NONE
            delete -1 1 = NONE
            begin 0 = 1
            delete 0 1 = BUSY
            delete 1 1 = 1
            abort 1 = 1
            key 1 1 = 6
            commit 0 = 0
            delete 0 1 = NONE
            """);
    }

    private static void deleteLocks() {
        Script.play(DUE, "5 delete's locks", """
            begin -1 = 0
            put 0 20 1 = 0
            put 0 25 1 = 0
            commit 0 = 0
            begin -1 = 1
            get 1 20 = 1
            begin -1 = 2
            delete 2 20 = WAIT # the next is got before the key
            lock 2 25 = 2
            lock 2 20 = 0
            waits 2 1 = true
            delete 1 22 = WAIT # absent: the next, 25, which 2 has; 2 waits for 1
            state 2 = 4
            resume 1 = 0
            lock 1 25 = 1
            lock 1 22 = 0
            delete 1 25 = 1
            lock 1 25 = 2
            lock 1 32 = 2
            """);
    }

    private static void scan() {
        Script.play(DUE, "6 scan", """
            begin -1 = 0
            put 0 1 10 = 0
            put 0 6 20 = 0
            put 0 9 -5 = 0
            put 0 17 1 = 0
            commit 0 = 0
            begin -1 = 1
            scan 1 0 9 = 3
            value = 25
            lock 1 1 = 1
            lock 1 6 = 1
            lock 1 9 = 1
            lock 1 17 = 1    # the next of 9
            lock 1 32 = 0
            lock 1 0 = 0
            frame 0 = 5      # the pages 0, 1, 2, rising
            frame 1 = 3
            frame 2 = 1
            scan 1 2 5 = 0
            value = 0
            frame 0 = 3
            frame 1 = 1
            frame 2 = 5
            scan 1 6 6 = 1
            value = 20
            scan 1 18 31 = 0
            lock 1 32 = 1
            frame 0 = 14
            frame 3 = 9      # page 4
            scan 1 31 31 = 0
            scan 1 -1 3 = NONE
            scan 1 3 32 = NONE
            scan 1 5 4 = NONE
            scan 1 -2147483648 2147483647 = NONE
            scan 2 1 2 = NONE
            scan 0 1 2 = NONE
            log 0 = 7
            begin 1 = 2
            scan 1 1 2 = BUSY
            scan 2 0 31 = 4
            value = 26
            commit 2 = 0
            put 1 1 2147483647 = 0
            scan 1 0 7 = 2
            value = -2147483629 # the sum wraps
            """);
    }

    private static void scanWaits() {
        Script.play(DUE, "6 scan waits", """
            new 8
            begin -1 = 0
            put 0 1 10 = 0
            put 0 6 20 = 0
            put 0 9 30 = 0
            commit 0 = 0
            begin -1 = 1
            put 1 6 21 = 0
            begin -1 = 2
            frame 0 = 3
            scan 2 0 9 = WAIT
            lock 2 1 = 1     # it keeps what it has got
            lock 2 6 = 0
            lock 2 9 = 0
            waits 2 1 = true
            frame 0 = 3      # nothing is touched yet
            begin -1 = 3
            put 3 1 1 = WAIT
            waits 3 2 = true
            commit 1 = 0
            resume 2 = 3
            value = 61
            lock 2 32 = 1
            """);
    }

    private static void resume() {
        Script.play(DUE, "7 resume", """
            begin -1 = 0
            resume 0 = NONE
            resume 1 = NONE
            resume -1 = NONE
            put 0 3 30 = 0
            begin -1 = 1
            begin -1 = 2
            begin -1 = 3
            begin -1 = 4
            get 1 3 = WAIT
            resume 1 = WAIT
            state 1 = 2
            put 2 3 32 = WAIT
            delete 3 3 = WAIT
            scan 4 0 31 = WAIT
            commit 0 = 0
            state 1 = 2      # nobody is woken
            resume 1 = 1
            value = 30
            state 1 = 1
            resume 1 = NONE
            resume 2 = WAIT  # 1 has it shared now
            commit 1 = 0
            resume 1 = NONE
            resume 2 = 0
            key 3 1 = 32
            commit 2 = 0
            resume 3 = 1
            key 3 0 = 0
            resume 4 = WAIT
            commit 3 = 0
            resume 4 = 0
            value = 0
            commit 4 = 0
            """);
    }

    private static void resumeAsThingsAre() {
        Script.play(DUE, "7 resume as things are", """
            begin -1 = 0
            put 0 3 30 = 0
            begin -1 = 1
            get 1 3 = WAIT
            abort 0 = 1
            resume 1 = 0     # the key is gone
            lock 1 3 = 0
            lock 1 32 = 1    # so it needs the next item now
            value = 0
            new 4
            begin -1 = 0
            put 0 3 30 = 0
            begin -1 = 1
            put 1 3 31 = WAIT
            abort 0 = 1
            resume 1 = 0
            lock 1 3 = 2
            lock 1 32 = 2    # absent, so the next, too
            entry 6 1 = 1
            entry 6 3 = 0
            """);
    }

    private static void resumeMeetsCircle() {
        Script.play(DUE, "7 resume meets a circle", """
            begin -1 = 0
            put 0 1 1 = 0
            put 0 2 2 = 0
            put 0 3 3 = 0
            commit 0 = 0
            begin -1 = 1
            begin -1 = 2
            begin -1 = 3
            put 1 2 20 = 0
            put 2 1 10 = 0
            put 3 3 30 = 0
            scan 3 1 2 = WAIT  # for 2
            put 1 3 31 = WAIT  # for 3, and this for 2
            commit 2 = 0
            waits 3 1 = true   # now it would be 1
            resume 3 = VICTIM
            state 3 = 4
            key 3 1 = 3
            resume 1 = 0
            key 3 1 = 31
            """);
    }

    private static void value() {
        Script.play(DUE, "8 value", """
            value = 0
            begin -1 = 0
            put 0 3 30 = 0
            value = 0        # of GET and SCAN alone
            get 0 3 = 1
            value = 30
            put 0 3 31 = 0
            delete 0 9 = 0
            value = 30
            get 0 32 = NONE
            value = 30
            begin -1 = 1
            get 1 3 = WAIT
            value = 30
            scan 0 0 9 = 1
            value = 31
            begin 0 = 2
            get 0 4 = BUSY
            value = 31
            get 2 4 = 0
            value = 0
            commit 2 = 0
            commit 0 = 0
            resume 1 = 1
            value = 31       # of all transactions
            crash 0 = 0
            value = 31
            archive = 1
            value = 31
            """);
    }
}
