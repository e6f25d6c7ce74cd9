/** Promises 13 and 22 to 24: write, key, frame, page. */
final class PageTest {
    private static final Due DUE = new Due("PageTest");

    public static void main(String[] args) {
        write();
        writeFlushes();
        key();
        frame();
        leavingAFrame();
        page();
        DUE.end();
    }

    private static void write() {
        Script.play(DUE, "13 write", """
            new 2
            write 0 = false  # in no frame
            begin -1 = 0
            get 0 0 = 0
            write 0 = false  # not dirty
            put 0 0 5 = 0
            put 0 4 6 = 0
            key 0 2 = 0
            write 0 = true
            key 0 2 = 1
            key 0 3 = 5
            key 4 2 = 0
            frame 0 = 3      # it is no touch
            frame 1 = 0
            write 0 = false
            write 1 = true
            write -1 = false
            write 8 = false
            write 2147483647 = false
            write -2147483648 = false
            delete 0 0 = 1
            key 0 2 = 1
            key 0 0 = 0
            frame 0 = 1
            write 0 = true
            key 0 2 = 0
            key 0 3 = 0
            """);
    }

    private static void writeFlushes() {
        Script.play(DUE, "13 write flushes", """
            begin -1 = 0
            put 0 0 5 = 0    # LSN 2
            put 0 4 6 = 0    # LSN 3
            put 0 8 7 = 0    # LSN 4
            log 1 = 0
            write 1 = true
            log 1 = 3        # the page's LSN, not the last
            write 0 = true
            log 1 = 3        # 2 is not above it
            write 2 = true
            log 1 = 4
            """);
    }

    private static void key() {
        Script.play(DUE, "22 key", """
            new 1
            key 0 0 = 0
            begin -1 = 0
            put 0 0 -1 = 0
            key 0 0 = 1
            key 0 1 = -1
            key 0 2 = 0
            key 0 3 = 0
            put 0 31 9 = 0   # page 0 leaves its frame
            key 0 0 = 1
            key 0 1 = -1
            key 0 2 = 1
            key 0 3 = -1
            key 31 1 = 9
            key 31 3 = 0
            key 0 4 = NONE
            key 0 -1 = NONE
            key 32 0 = NONE
            key -1 0 = NONE
            key 2147483647 0 = NONE
            key -2147483648 0 = NONE
            key 0 2147483647 = NONE
            put 0 0 0 = 0
            key 0 0 = 1
            key 0 1 = 0
            """);
    }

    private static void frame() {
        Script.play(DUE, "23 frame", """
            new 3
            frame 0 = NONE
            begin -1 = 0
            get 0 0 = 0
            frame 0 = 0
            frame 1 = NONE
            put 0 4 1 = 0
            get 0 8 = 0
            frame 0 = 4
            frame 1 = 3
            frame 2 = 0
            frame 3 = NONE
            get 0 5 = 0      # the same page again
            frame 0 = 3
            frame 1 = 4
            frame 2 = 0
            get 0 12 = 0     # 0 was touched the longest time ago
            frame 0 = 6
            frame 1 = 3
            frame 2 = 4
            frame 3 = NONE
            frame -1 = NONE
            frame 8 = NONE
            frame 2147483647 = NONE
            frame -2147483648 = NONE
            write 1 = true
            frame 1 = 2
            key 4 1 = 1      # to ask is no touch
            page 1 = 2
            frame 1 = 2
            commit 0 = 0
            crash 0 = 0
            frame 0 = 2      # what the redo touched
            frame 1 = NONE
            """);
    }

    private static void leavingAFrame() {
        Script.play(DUE, "23 leaving a frame", """
            new 2
            begin -1 = 0
            put 0 0 1 = 0    # LSN 2
            put 0 4 2 = 0    # LSN 3
            put 0 1 3 = 0    # LSN 4, page 0
            log 1 = 0
            get 0 8 = 0      # page 1 leaves, and is written
            log 1 = 3
            key 4 2 = 1
            key 0 2 = 0
            frame 0 = 4
            frame 1 = 1
            get 0 4 = 1      # page 0 leaves
            value = 2
            log 1 = 4
            key 0 3 = 1
            key 1 3 = 3
            frame 0 = 2      # read again, not dirty
            get 0 12 = 0     # page 2 leaves, not dirty
            log 1 = 4
            scan 0 0 31 = 3
            value = 6
            frame 0 = 14
            frame 1 = 12
            abort 0 = 3
            key 0 0 = 0
            frame 0 = 1
            frame 1 = 3
            """);
    }

    private static void page() {
        Script.play(DUE, "24 page", """
            new 1
            page 0 = 0
            begin -1 = 0
            put 0 0 1 = 0
            page 0 = 2
            put 0 3 1 = 0
            page 0 = 3
            put 0 28 1 = 0
            page 0 = 3       # on the disk
            page 7 = 4
            page 1 = 0
            rollback 0 3 = 1
            page 7 = 5
            page 8 = NONE
            page -1 = NONE
            page 2147483647 = NONE
            page -2147483648 = NONE
            crash 0 = 2
            page 0 = 5       # the log ended with 3, then two UNDOs
            page 7 = 0
            archive = 1
            page 0 = 5
            """);
    }
}
