/** The sentences of Terms on keys, pages, frames and the disk, each at its limits. */
final class PageTermsTest {
    private static final Due DUE = new Due("PageTermsTest");

    public static void main(String[] args) {
        keys();
        keysOfPages();
        diskAtFirst();
        asItIs();
        dirty();
        dirtyByUndoAndRedo();
        for (int frames = 1; frames <= 8; frames++) {
            framesUpToFull(frames);
            framesFull(frames);
            dirtyOneLeaves(frames);
        }
        cleanOneLeaves();
        touchedInAFullOne();
        writeBelowAtAndAboveFlushed();
        leavingBelowFlushed();
        DUE.end();
    }

    /** "KEYS are 0 .. 31." */
    private static void keys() {
        int[] wrong = {Integer.MIN_VALUE, -32, -1, 32, 33, Integer.MAX_VALUE};
        int[] right = {0, 1, 30, 31};
        Script script = new Script(DUE, "keys are 0 .. 31");
        script.play("begin -1 = 0");
        for (int k : right) {
            script.play(0, "get", 0, k);
            script.play(0, "put", 0, k, k + 5);
            script.play(1, "get", 0, k);
            script.play(k + 5, "value");
            script.play(1, "scan", 0, k, k);
            script.play(1, "key", k, 0);
            script.play(1, "delete", 0, k);
            script.play(0, "key", k, 0);
            script.play(0, "scan", 0, k, k);
        }
        for (int k : wrong) {
            script.play(-1, "get", 0, k);
            script.play(-1, "put", 0, k, 1);
            script.play(-1, "delete", 0, k);
            script.play(-1, "scan", 0, k, k);
            script.play(-1, "key", k, 0);
            script.play(-1, "key", k, 2);
        }
    }

    /** "PAGE p, 0 .. 7, has the keys 4 * p .. 4 * p + 3 and an LSN" */
    private static void keysOfPages() {
        int[] firstKeys = {0, 4, 8, 12, 16, 20, 24, 28};
        for (int p = 0; p < 8; p++) {
            for (int k = firstKeys[p]; k < firstKeys[p] + 4; k++) {
                Script script = new Script(DUE, "key " + k + " of page " + p);
                script.play("begin -1 = 0");
                script.play(0, "get", 0, k);
                script.play(2 * p, "frame", 0);
                script.play(0, "put", 0, k, 1);
                script.play(2 * p + 1, "frame", 0);
                script.play(-1, "frame", 1);
                for (int other = 0; other < 8; other++) {
                    script.play(other == p ? 2 : 0, "page", other);
                    script.play(other == p ? 1 : 0, "write", other);
                }
                script.play(1, "key", k, 2);
            }
        }
        Script.play(DUE, "pages are 0 .. 7", """
            page -1 = NONE
            page 0 = 0
            page 7 = 0
            page 8 = NONE
            begin -1 = 0
            put 0 0 1 = 0
            put 0 31 1 = 0
            write -1 = false
            write 8 = false
            write 0 = true
            write 7 = true
            """);
    }

    /** "Each page lies on the DISK (at first with no key and LSN 0)" */
    private static void diskAtFirst() {
        Script script = new Script(DUE, "the disk at first");
        for (int p = 0; p < 8; p++) {
            script.play(0, "page", p);
            script.play(-1, "frame", p);
        }
        for (int k = 0; k < 32; k++) {
            for (int what = 0; what < 4; what++) {
                script.play(0, "key", k, what);
            }
        }
    }

    /** "What is in a frame, else what is on the disk, is how the page IS" */
    private static void asItIs() {
        Script.play(DUE, "as it is", """
            new 1
            begin -1 = 0
            put 0 3 30 = 0   # in the frame
            key 3 0 = 1
            key 3 1 = 30
            key 3 2 = 0
            key 3 3 = 0
            page 0 = 2
            get 0 4 = 0      # now it is on the disk alone
            key 3 0 = 1
            key 3 1 = 30
            key 3 2 = 1
            key 3 3 = 30
            page 0 = 2
            put 0 3 31 = 0   # in both, and not the same
            key 3 1 = 31
            key 3 3 = 30
            page 0 = 3
            delete 0 3 = 1
            key 3 0 = 0
            key 3 1 = 0
            key 3 2 = 1
            key 3 3 = 30
            """);
    }

    /** "A page in a frame is DIRTY if it was changed since it was read or written." */
    private static void dirty() {
        Script.play(DUE, "dirty", """
            new 1
            begin -1 = 0
            get 0 0 = 0
            frame 0 = 0      # read
            put 0 0 1 = 0
            frame 0 = 1      # changed
            get 0 0 = 1
            scan 0 0 3 = 1
            frame 0 = 1      # reading it again makes no difference
            write 0 = true
            frame 0 = 0      # written
            write 0 = false
            put 0 0 1 = 0
            frame 0 = 1      # an update to the same value changes it, too
            write 0 = true
            delete 0 1 = 0
            frame 0 = 0      # an absent key is not changed
            delete 0 0 = 1
            frame 0 = 1
            get 0 4 = 0      # it leaves, and is written
            frame 0 = 2
            get 0 0 = 0
            frame 0 = 0      # read anew
            put 0 1 1 = 0
            commit 0 = 0
            frame 0 = 1      # a commit writes no page
            archive = 1
            frame 0 = 0
            """);
    }

    private static void dirtyByUndoAndRedo() {
        Script.play(DUE, "dirty by an undo", """
            new 2
            begin -1 = 0
            put 0 0 1 = 0
            write 0 = true
            frame 0 = 0
            rollback 0 1 = 1
            frame 0 = 1
            write 0 = true
            put 0 0 2 = 0
            write 0 = true
            abort 0 = 1
            frame 0 = 1
            write 0 = true
            log 1 = 5        # only the ABORTED is behind it
            crash 1 = 0
            frame 0 = 0      # nothing was redone or undone
            begin -1 = 1
            put 1 4 1 = 0
            commit 1 = 0
            crash 0 = 0
            frame 0 = 3      # redone
            frame 1 = 0
            """);
    }

    /** "if it is in no frame, and all frames are full": as long as one is free, none leaves. */
    private static void framesUpToFull(int frames) {
        Script script = new Script(DUE, "filling " + frames + " frames");
        script.make(frames);
        script.play("begin -1 = 0");
        for (int p = 0; p < frames; p++) {
            script.play(-1, "frame", p);
            script.play(0, "put", 0, 4 * p, p);
            for (int i = 0; i <= p; i++) {
                script.play(2 * (p - i) + 1, "frame", i);
            }
        }
        script.play(-1, "frame", frames);
        script.play("log 1 = 0");
        script.play(0, "put", 0, 1, 1);      // in a frame already: none leaves
        script.play(1, "frame", 0);
        for (int i = 1; i < frames; i++) {
            script.play(2 * (frames - i) + 1, "frame", i);
        }
        script.play(-1, "frame", frames);
        script.play("log 1 = 0");
    }

    /** "the page that was touched the longest time ago leaves its frame": not the one read first. */
    private static void framesFull(int frames) {
        Script script = new Script(DUE, frames + " full frames");
        script.make(frames);
        script.play("begin -1 = 0");
        for (int p = 0; p < frames; p++) {
            script.play(0, "get", 0, 4 * p + 3);
        }
        script.play(0, "get", 0, 0);         // page 0 was read first, but touched last
        int next = frames % 8;
        script.play(0, "get", 0, 4 * next);
        script.play(2 * next, "frame", 0);
        if (frames > 1 && frames < 8) {
            script.play(0, "frame", 1);
        }
        if (frames > 2 && frames < 8) {
            script.play(4, "frame", frames - 1);
        }
        script.play(-1, "frame", frames);
    }

    /** "and when it is dirty it is WRITTEN before": its LSN is flushed, no other. */
    private static void dirtyOneLeaves(int frames) {
        if (frames == 8) {
            return;
        }
        Script script = new Script(DUE, "a dirty one leaves " + frames + " frames");
        script.make(frames);
        script.play("begin -1 = 0");
        for (int p = 0; p < frames; p++) {
            script.play(0, "put", 0, 4 * p, 70 + p);
        }
        script.play(0, "log", 1);
        script.play(0, "get", 0, 4 * frames);
        script.play(2, "log", 1);            // page 0 has LSN 2
        script.play(1, "key", 0, 2);
        script.play(70, "key", 0, 3);
        if (frames > 1) {
            script.play(0, "key", 4, 2);     // page 1 is still where it was
        }
        script.play(0, "write", 0);          // not in a frame any more
    }

    private static void cleanOneLeaves() {
        Script.play(DUE, "one that is not dirty leaves", """
            new 1
            begin -1 = 0
            put 0 0 1 = 0    # LSN 2
            write 0 = true
            log 1 = 2
            begin 0 = 1
            get 1 4 = 0      # page 0 leaves; it is not written again
            log 1 = 2
            get 1 8 = 0      # page 1 leaves; it was never changed
            log 1 = 2
            page 1 = 0
            page 0 = 2
            key 0 1 = 1
            """);
    }

    /** "Pages in frames are ordered by their latest touch." */
    private static void touchedInAFullOne() {
        Script.play(DUE, "ordered by the latest touch", """
            new 3
            begin -1 = 0
            get 0 0 = 0
            get 0 4 = 0
            get 0 8 = 0
            frame 0 = 4
            frame 1 = 2
            frame 2 = 0
            get 0 8 = 0      # the first stays the first
            frame 0 = 4
            frame 1 = 2
            frame 2 = 0
            get 0 4 = 0      # one from the middle
            frame 0 = 2
            frame 1 = 4
            frame 2 = 0
            get 0 0 = 0      # the last
            frame 0 = 0
            frame 1 = 2
            frame 2 = 4
            put 0 9 1 = 0    # an UPDATE touches
            frame 0 = 5
            get 0 0 = 0
            rollback 0 1 = 1 # an UNDO touches
            frame 0 = 5
            frame 1 = 0
            frame 2 = 2
            write 2 = true   # to write is no touch
            delete 0 4 = 0   # nor is a DELETE of an absent key
            frame 0 = 4
            frame 1 = 0
            scan 0 0 31 = 0  # the last three of eight
            frame 0 = 14
            frame 1 = 12
            frame 2 = 10
            frame 3 = NONE
            """);
    }

    /** "if its LSN is above FLUSHED, FLUSHED becomes its LSN" */
    private static void writeBelowAtAndAboveFlushed() {
        Script.play(DUE, "write below FLUSHED", """
            begin -1 = 0
            put 0 0 1 = 0    # LSN 2
            put 0 4 1 = 0    # LSN 3
            write 1 = true
            log 1 = 3
            page 0 = 2
            write 0 = true
            log 1 = 3
            key 0 2 = 1
            """);
        Script.play(DUE, "write at FLUSHED", """
            begin -1 = 0
            put 0 0 1 = 0    # LSN 2
            crash 2 = 1      # LSN 3
            log 1 = 3
            page 0 = 3
            frame 0 = 1
            write 0 = true
            log 1 = 3
            frame 0 = 0
            """);
        Script.play(DUE, "write one above FLUSHED", """
            begin -1 = 0
            put 0 0 1 = 0    # LSN 2
            write 0 = true
            log 1 = 2
            put 0 4 1 = 0    # LSN 3
            begin 0 = 1
            write 1 = true
            log 1 = 3
            log 0 = 4
            """);
    }

    private static void leavingBelowFlushed() {
        Script.play(DUE, "leaving below FLUSHED", """
            new 2
            begin -1 = 0
            put 0 0 1 = 0    # LSN 2
            put 0 4 1 = 0    # LSN 3
            write 1 = true
            get 0 8 = 0      # page 0 leaves with LSN 2
            log 1 = 3
            key 0 2 = 1
            begin -1 = 1
            commit 1 = 0     # FLUSHED is 5
            put 0 8 1 = 0    # LSN 6
            get 0 0 = 1      # page 1 leaves, not dirty
            log 1 = 5
            get 0 4 = 1      # page 2 leaves with LSN 6
            log 1 = 6
            """);
    }
}
