/** FULL, of the promises 2, 4, 5 and 7: records, open updates and live ones are 300 at most. */
final class RoomTest {
    private static final Due DUE = new Due("RoomTest");

    public static void main(String[] args) {
        fullByEvenSteps();
        fullAtTwoHundredAndNinetyNine();
        resumeFull();
        fullAbort();
        fullCrash();
        fullBegin();
        DUE.end();
    }

    private static void putMany(Script script, int t, int count) {
        for (int i = 0; i < count; i++) {
            script.play(0, "put", t, i % 16, i);
        }
    }

    private static void fullByEvenSteps() {
        Script script = new Script(DUE, "4, 5 full");
        script.play("begin -1 = 0");
        putMany(script, 0, 149);
        script.play("""
            log 0 = 150
            log 2 = 150      # 150 and 149 and 1 are 300
            log 3 = 149
            log 4 = 1
            put 0 3 1 = FULL
            delete 0 3 = FULL
            begin -1 = FULL
            begin 0 = FULL
            begin 7 = NONE   # refused before the room is looked at
            put 0 32 1 = NONE
            key 3 1 = 147
            log 0 = 150
            delete 0 20 = 0  # absent: needs no room
            get 0 3 = 1
            value = 147
            scan 0 0 31 = 16
            lock 0 20 = 0
            frame 0 = 14
            put 0 20 1 = FULL
            lock 0 20 = 2    # locks stay that it had to get before
            frame 0 = 14     # no touch
            key 20 0 = 0
            state 0 = 1
            rollback 0 149 = 1
            log 2 = 151
            put 0 3 1 = FULL # a record more, an open update less
            commit 0 = 0
            log 2 = 152
            begin -1 = 1
            """);
    }

    private static void fullAtTwoHundredAndNinetyNine() {
        Script script = new Script(DUE, "4 full at 299");
        script.play("""
            begin -1 = 0
            put 0 0 0 = 0
            commit 0 = 0
            begin -1 = 1
            """);
        putMany(script, 1, 147);
        script.play("""
            log 2 = 151      # 151 and 147 and 1 are 299
            log 3 = 147
            log 4 = 1
            put 1 3 1 = FULL # one more would make 301
            delete 1 3 = FULL
            begin -1 = FULL
            commit 1 = 0
            """);
    }

    private static void resumeFull() {
        Script script = new Script(DUE, "7 full");
        script.play("""
            begin -1 = 0
            begin -1 = 1
            begin -1 = 2
            """);
        putMany(script, 0, 147);
        script.play("""
            put 1 20 5 = WAIT # END is kept by 0
            delete 2 3 = WAIT
            put 0 3 1 = FULL
            log 2 = 150
            abort 0 = 147
            log 2 = 298
            log 4 = 2
            resume 1 = FULL
            state 1 = 1      # active with this answer
            lock 1 20 = 2
            lock 1 32 = 2
            resume 1 = NONE
            get 1 20 = 0
            state 2 = 2
            resume 2 = WAIT  # 3 is absent, and END is kept by 1
            commit 1 = 0
            resume 2 = 0
            commit 2 = 0
            log 2 = 300
            begin -1 = FULL
            archive = 4
            begin -1 = 3
            put 3 20 5 = 0
            """);
    }

    private static void fullAbort() {
        Script script = new Script(DUE, "10 abort when full");
        script.play("begin -1 = 0");
        putMany(script, 0, 149);
        script.play("""
            abort 0 = 149
            log 0 = 300
            log 2 = 300
            entry 299 3 = 2
            entry 300 0 = 5
            begin -1 = FULL
            key 0 0 = 0
            archive = 4
            log 0 = 300
            log 2 = 0
            begin -1 = 1
            entry 301 0 = 1
            """);
    }

    private static void fullCrash() {
        Script script = new Script(DUE, "15 crash when full");
        script.play("begin -1 = 0");
        putMany(script, 0, 149);
        script.play("""
            crash 150 = 149
            log 0 = 299
            log 2 = 299
            begin -1 = FULL
            key 0 0 = 0
            crash 0 = 0
            log 2 = 299
            archive = 4
            begin -1 = 1
            """);
    }

    private static void fullBegin() {
        Script script = new Script(DUE, "2 full");
        script.play("begin -1 = 0");
        putMany(script, 0, 148);
        script.play("""
            begin 0 = 1
            begin 0 = FULL
            begin -1 = FULL
            put 1 0 1 = FULL
            commit 1 = 0
            begin 0 = FULL   # a record more, a live one less
            state 2 = NONE
            log 0 = 151
            """);
    }
}
