/**
 * A store of keys for transactions that have transactions within them. The promises in DOC.md say
 * what each call does; the comments here say only why the code is as it is.
 *
 * <p>There are never more than 60 transactions, so a set of them is the bits of one long. All rows
 * are made in the constructors: no call makes an object.
 */
public final class NestedStore {
    public static final int NONE = -1;
    public static final int WAIT = -2;
    public static final int VICTIM = -3;
    public static final int BUSY = -4;
    public static final int FULL = -5;

    private static final int KEYS = 32;
    private static final int END = KEYS;
    private static final int ITEMS = KEYS + 1;
    private static final int KEYS_OF_A_PAGE = 4;
    private static final int PAGES = KEYS / KEYS_OF_A_PAGE;
    private static final int MOST_TRANSACTIONS = 60;
    private static final int GREATEST_DEPTH = 4;
    private static final int ROOM = 300;

    /** A begin adds a record and a live transaction; a put or delete a record and an open update. */
    private static final int ROOM_FOR_ONE = 2;

    private static final int ACTIVE = 1;
    private static final int WAITING = 2;
    private static final int COMMITTED = 3;
    private static final int ABORTED = 4;

    private static final int BEGIN_RECORD = 1;
    private static final int UPDATE_RECORD = 2;
    private static final int UNDO_RECORD = 3;
    private static final int COMMIT_RECORD = 4;
    private static final int ABORTED_RECORD = 5;

    private static final int NO_LOCK = 0;
    private static final int SHARED = 1;
    private static final int EXCLUSIVE = 2;

    private static final int GET = 0;
    private static final int PUT = 1;
    private static final int DELETE = 2;
    private static final int SCAN = 3;

    private final Transactions transactions = new Transactions();
    private final Locks locks = new Locks();
    private final Plan plan = new Plan();
    private final Leads leads = new Leads();
    private final Log log = new Log();
    private final Pages pages;
    private int latestValue;

    public NestedStore(int frames) {
        pages = new Pages(Math.max(1, Math.min(PAGES, frames)));
    }

    public int begin(int parent) {
        boolean mayBegin = parent == NONE
                || transactions.isActive(parent) && transactions.depth[parent] < GREATEST_DEPTH;
        if (!mayBegin || transactions.count >= MOST_TRANSACTIONS) {
            return NONE;
        }
        if (!hasRoomForOne()) {
            return FULL;
        }
        int t = transactions.add(parent, log.last() + 1);
        log.append(BEGIN_RECORD, t, parent);
        return t;
    }

    public int get(int t, int k) {
        int refusal = prepare(t, GET, k, k, 0);
        return refusal != 0 ? refusal : request(t);
    }

    public int put(int t, int k, int value) {
        int refusal = prepare(t, PUT, k, k, value);
        return refusal != 0 ? refusal : request(t);
    }

    public int delete(int t, int k) {
        int refusal = prepare(t, DELETE, k, k, 0);
        return refusal != 0 ? refusal : request(t);
    }

    public int scan(int t, int low, int high) {
        int refusal = prepare(t, SCAN, low, high, 0);
        return refusal != 0 ? refusal : request(t);
    }

    public int resume(int t) {
        if (!transactions.isWaiting(t)) {
            return NONE;
        }
        return request(t);
    }

    public int value() {
        return latestValue;
    }

    public int commit(int t) {
        int refusal = refusalOf(t);
        if (refusal != 0) {
            return refusal;
        }
        log.append(COMMIT_RECORD, t, 0);
        transactions.state[t] = COMMITTED;
        int heir = transactions.parent[t];
        if (heir == NONE) {
            log.flushed = log.last();
        } else {
            locks.passOn(t, heir);
        }
        locks.release(t);
        return 0;
    }

    public int abort(int t) {
        if (!transactions.isLive(t)) {
            return NONE;
        }
        return abortWithDescendants(t);
    }

    public int save(int t) {
        int refusal = refusalOf(t);
        return refusal != 0 ? refusal : log.last();
    }

    public int rollback(int t, int point) {
        if (!transactions.isActive(t) || point < transactions.begun[t] || point > log.last()) {
            return NONE;
        }
        if (transactions.isBusy(t)) {
            return BUSY;
        }
        return undoOpenUpdates(t, point);
    }

    public boolean write(int page) {
        if (!isPage(page) || !pages.dirty[page]) {
            return false;
        }
        pages.putOnDisk(page, log);
        return true;
    }

    public int archive() {
        if (transactions.liveCount() > 0) {
            return NONE;
        }
        int written = 0;
        for (int p = 0; p < PAGES; p++) {
            if (pages.dirty[p]) {
                pages.putOnDisk(p, log);
                written++;
            }
        }
        log.empty();
        return written;
    }

    public int crash(int n) {
        if (n < 0 || n > log.last() - log.flushed) {
            return NONE;
        }
        log.flushed += n;
        log.loseUnflushed();
        pages.loseFrames();
        locks.releaseAll();
        transactions.abortUncommitted();
        redoLog();
        int undone = undoUncommitted();
        log.flushed = log.last();
        return undone;
    }

    public int state(int t) {
        return transactions.exists(t) ? transactions.state[t] : NONE;
    }

    public int parent(int t) {
        return transactions.exists(t) ? transactions.parent[t] : NONE;
    }

    public int lock(int t, int item) {
        if (!transactions.exists(t) || item < 0 || item >= ITEMS) {
            return NONE;
        }
        return locks.heldBy(t, item);
    }

    public boolean waits(int t, int u) {
        if (!transactions.isWaiting(t) || !transactions.exists(u)) {
            return false;
        }
        return (blockersOf(t) & (1L << u)) != 0;
    }

    public int entry(int lsn, int what) {
        if (lsn <= log.base || lsn > log.last()) {
            return NONE;
        }
        int row = log.rowOf(lsn);
        switch (what) {
            case 0:
                return log.kind[row];
            case 1:
                return log.transaction[row];
            case 2:
                return log.subject[row];
            case 3:
                return log.kind[row] == UNDO_RECORD ? log.undoes[row] : asNumber(log.wasThere[row]);
            case 4:
                return asNumber(log.isThere[row]);
            case 5:
                return log.newValue[row];
            default:
                return NONE;
        }
    }

    public int log(int what) {
        switch (what) {
            case 0:
                return log.last();
            case 1:
                return log.flushed;
            case 2:
                return log.size;
            case 3:
                return openUpdateCount();
            case 4:
                return transactions.liveCount();
            default:
                return NONE;
        }
    }

    public int key(int k, int what) {
        if (!isKey(k)) {
            return NONE;
        }
        switch (what) {
            case 0:
                return asNumber(pages.there[k]);
            case 1:
                return pages.value[k];
            case 2:
                return asNumber(pages.diskThere[k]);
            case 3:
                return pages.diskValue[k];
            default:
                return NONE;
        }
    }

    public int frame(int i) {
        if (i < 0 || i >= pages.framesInUse) {
            return NONE;
        }
        int page = pages.byTouch[i];
        return page * 2 + asNumber(pages.dirty[page]);
    }

    public int page(int p) {
        return isPage(p) ? pages.lsn[p] : NONE;
    }

    private static boolean isKey(int k) {
        return k >= 0 && k < KEYS;
    }

    private static boolean isPage(int p) {
        return p >= 0 && p < PAGES;
    }

    private static int asNumber(boolean yes) {
        return yes ? 1 : 0;
    }

    /** 0 when t may act: it is active and has no live children. */
    private int refusalOf(int t) {
        if (!transactions.isActive(t)) {
            return NONE;
        }
        return transactions.isBusy(t) ? BUSY : 0;
    }

    /** Notes the request with t, so that it can be made, and made again; 0 when it may be made. */
    private int prepare(int t, int kind, int low, int high, int value) {
        if (!isKey(low) || !isKey(high) || low > high) {
            return NONE;
        }
        int refusal = refusalOf(t);
        if (refusal == 0) {
            transactions.setRequest(t, kind, low, high, value);
        }
        return refusal;
    }

    private int request(int t) {
        if (takeLocks(t)) {
            transactions.state[t] = ACTIVE;
            return carryOut(t);
        }
        transactions.state[t] = WAITING;
        int victim = victimOfCircle(t);
        // Each round ends at least one live transaction.
        for (int round = 0; round < MOST_TRANSACTIONS && victim != NONE; round++) {
            abortWithDescendants(victim);
            victim = victimOfCircle(t);
        }
        return transactions.isLive(t) ? WAIT : VICTIM;
    }

    /** Whether t has all locks of its request then; it keeps those before the first it may not get. */
    private boolean takeLocks(int t) {
        planLocks(t);
        int free = freeLocks(t);
        for (int i = 0; i < free; i++) {
            locks.grant(t, plan.items[i], plan.mode);
        }
        return free == plan.size;
    }

    /** Those for which t waits if it makes its request now. */
    private long blockersOf(int t) {
        planLocks(t);
        int free = freeLocks(t);
        if (free == plan.size) {
            return 0;
        }
        return locks.blockers(plan.items[free], plan.mode, transactions.lineage[t]);
    }

    /** How many of the planned locks, from the first on, t has or may get. */
    private int freeLocks(int t) {
        for (int i = 0; i < plan.size; i++) {
            int item = plan.items[i];
            boolean has = locks.heldBy(t, item) >= plan.mode;
            if (!has && locks.blockers(item, plan.mode, transactions.lineage[t]) != 0) {
                return i;
            }
        }
        return plan.size;
    }

    /** All locks that one request asks for are of one mode. */
    private void planLocks(int t) {
        int low = transactions.low[t];
        int high = transactions.high[t];
        boolean there = pages.there[low];
        switch (transactions.kind[t]) {
            case GET:
                plan.start(SHARED);
                plan.add(there ? low : pages.nextItem(low));
                break;
            case PUT:
                plan.start(EXCLUSIVE);
                if (!there) {
                    plan.add(pages.nextItem(low));
                }
                plan.add(low);
                break;
            case DELETE:
                plan.start(there ? EXCLUSIVE : SHARED);
                plan.add(pages.nextItem(low));
                if (there) {
                    plan.add(low);
                }
                break;
            default:
                plan.start(SHARED);
                for (int k = low; k <= high; k++) {
                    if (pages.there[k]) {
                        plan.add(k);
                    }
                }
                plan.add(pages.nextItem(high));
                break;
        }
    }

    private int carryOut(int t) {
        int k = transactions.low[t];
        switch (transactions.kind[t]) {
            case GET:
                pages.touch(k / KEYS_OF_A_PAGE, log);
                latestValue = pages.value[k];
                return asNumber(pages.there[k]);
            case PUT:
                if (!hasRoomForOne()) {
                    return FULL;
                }
                update(t, k, true, transactions.newValue[t]);
                return 0;
            case DELETE:
                if (!pages.there[k]) {
                    return 0;
                }
                if (!hasRoomForOne()) {
                    return FULL;
                }
                update(t, k, false, 0);
                return 1;
            default:
                return countAndSum(k, transactions.high[t]);
        }
    }

    private int countAndSum(int low, int high) {
        for (int p = low / KEYS_OF_A_PAGE; p <= high / KEYS_OF_A_PAGE; p++) {
            pages.touch(p, log);
        }
        int found = 0;
        int sum = 0;
        for (int k = low; k <= high; k++) {
            if (pages.there[k]) {
                found++;
                sum += pages.value[k];
            }
        }
        latestValue = sum;
        return found;
    }

    private void update(int t, int k, boolean isThere, int newValue) {
        int row = log.append(UPDATE_RECORD, t, k);
        log.setBefore(row, pages.there[k], pages.value[k]);
        log.setAfter(row, isThere, newValue);
        pages.touch(k / KEYS_OF_A_PAGE, log);
        pages.change(k, isThere, newValue, log.lsnOf(row));
    }

    private void undo(int updateRow, int by) {
        int k = log.subject[updateRow];
        boolean isThere = log.wasThere[updateRow];
        int newValue = log.oldValue[updateRow];
        int row = log.append(UNDO_RECORD, by, k);
        log.setAfter(row, isThere, newValue);
        log.undoes[row] = log.lsnOf(updateRow);
        log.undone[updateRow] = true;
        pages.touch(k / KEYS_OF_A_PAGE, log);
        pages.change(k, isThere, newValue, log.lsnOf(row));
    }

    private boolean isOpen(int row) {
        return log.kind[row] == UPDATE_RECORD && !log.undone[row]
                && transactions.isTopLive(log.transaction[row]);
    }

    private int openUpdateCount() {
        int open = 0;
        for (int row = 0; row < log.size; row++) {
            if (isOpen(row)) {
                open++;
            }
        }
        return open;
    }

    private boolean hasRoomForOne() {
        int used = log.size + openUpdateCount() + transactions.liveCount();
        return used + ROOM_FOR_ONE <= ROOM;
    }

    /** Undoes what t and its descendants updated above an LSN; answers how many updates. */
    private int undoOpenUpdates(int t, int point) {
        int undone = 0;
        for (int row = log.size - 1; row >= 0 && log.lsnOf(row) > point; row--) {
            if (isOpen(row) && transactions.isWithin(log.transaction[row], t)) {
                undo(row, t);
                undone++;
            }
        }
        return undone;
    }

    private int abortWithDescendants(int t) {
        // First the updates: they are open only as long as their top is live.
        int undone = undoOpenUpdates(t, transactions.begun[t]);
        for (int u = transactions.count - 1; u >= t; u--) {
            if (transactions.isLive(u) && transactions.isWithin(u, t)) {
                transactions.state[u] = ABORTED;
                log.append(ABORTED_RECORD, u, 0);
                locks.release(u);
            }
        }
        return undone;
    }

    /** The transaction to abort so that t may come out of its circle; NONE when it is in none. */
    private int victimOfCircle(int t) {
        if (!transactions.isLive(t)) {
            return NONE;
        }
        for (int u = 0; u < transactions.count; u++) {
            leads.from[u] = leadsOf(u);
        }
        return leads.greatestInCircle(t, transactions.count);
    }

    private long leadsOf(int u) {
        if (!transactions.isLive(u)) {
            return 0;
        }
        long others = transactions.liveChildren(u);
        return transactions.isWaiting(u) ? others | blockersOf(u) : others;
    }

    private void redoLog() {
        for (int row = 0; row < log.size; row++) {
            if (log.kind[row] == UPDATE_RECORD || log.kind[row] == UNDO_RECORD) {
                redo(row);
            }
        }
    }

    private void redo(int row) {
        int k = log.subject[row];
        int p = k / KEYS_OF_A_PAGE;
        pages.touch(p, log);
        if (pages.lsn[p] < log.lsnOf(row)) {
            pages.change(k, log.isThere[row], log.newValue[row], log.lsnOf(row));
        }
    }

    private int undoUncommitted() {
        int undone = 0;
        for (int row = log.size - 1; row >= 0; row--) {
            int top = transactions.top[log.transaction[row]];
            // The COMMIT of a committed top is in the log: it was flushed at once, and the log is
            // emptied of it and of its updates together.
            if (log.kind[row] == UPDATE_RECORD && !log.undone[row]
                    && transactions.state[top] != COMMITTED) {
                undo(row, top);
                undone++;
            }
        }
        return undone;
    }

    /** All transactions there ever were, each with the request that it made last. */
    private static final class Transactions {
        int count;
        final int[] parent = new int[MOST_TRANSACTIONS];
        final int[] top = new int[MOST_TRANSACTIONS];
        final int[] depth = new int[MOST_TRANSACTIONS];
        final int[] state = new int[MOST_TRANSACTIONS];
        /** The LSN of its BEGIN. */
        final int[] begun = new int[MOST_TRANSACTIONS];
        /** The set of itself and its ancestors. */
        final long[] lineage = new long[MOST_TRANSACTIONS];
        final int[] kind = new int[MOST_TRANSACTIONS];
        final int[] low = new int[MOST_TRANSACTIONS];
        final int[] high = new int[MOST_TRANSACTIONS];
        final int[] newValue = new int[MOST_TRANSACTIONS];

        boolean exists(int t) {
            return t >= 0 && t < count;
        }

        boolean isActive(int t) {
            return exists(t) && state[t] == ACTIVE;
        }

        boolean isWaiting(int t) {
            return exists(t) && state[t] == WAITING;
        }

        boolean isLive(int t) {
            return exists(t) && (state[t] == ACTIVE || state[t] == WAITING);
        }

        /** For a t that exists. */
        boolean isTopLive(int t) {
            int itsState = state[top[t]];
            return itsState == ACTIVE || itsState == WAITING;
        }

        boolean isWithin(int t, int ancestor) {
            return (lineage[t] & (1L << ancestor)) != 0;
        }

        boolean isBusy(int t) {
            return liveChildren(t) != 0;
        }

        long liveChildren(int t) {
            long children = 0;
            for (int u = t + 1; u < count; u++) {
                if (parent[u] == t && isLive(u)) {
                    children |= 1L << u;
                }
            }
            return children;
        }

        int liveCount() {
            int live = 0;
            for (int t = 0; t < count; t++) {
                if (isLive(t)) {
                    live++;
                }
            }
            return live;
        }

        /** The caller has seen that there are fewer than the most. */
        int add(int itsParent, int lsn) {
            int t = count;
            boolean isTop = !exists(itsParent);
            parent[t] = itsParent;
            top[t] = isTop ? t : top[itsParent];
            depth[t] = isTop ? 1 : depth[itsParent] + 1;
            lineage[t] = isTop ? 1L << t : lineage[itsParent] | (1L << t);
            state[t] = ACTIVE;
            begun[t] = lsn;
            count++;
            return t;
        }

        void setRequest(int t, int itsKind, int itsLow, int itsHigh, int itsValue) {
            kind[t] = itsKind;
            low[t] = itsLow;
            high[t] = itsHigh;
            newValue[t] = itsValue;
        }

        void abortUncommitted() {
            for (int t = 0; t < count; t++) {
                if (state[top[t]] != COMMITTED) {
                    state[t] = ABORTED;
                }
            }
        }
    }

    /** For each item the set of those that have it shared, and of those that have it exclusive. */
    private static final class Locks {
        final long[] shared = new long[ITEMS];
        final long[] exclusive = new long[ITEMS];

        int heldBy(int t, int item) {
            if ((exclusive[item] & (1L << t)) != 0) {
                return EXCLUSIVE;
            }
            return (shared[item] & (1L << t)) != 0 ? SHARED : NO_LOCK;
        }

        /** Those for which one with this lineage may not get the item. */
        long blockers(int item, int mode, long lineage) {
            long inTheWay = mode == EXCLUSIVE ? shared[item] | exclusive[item] : exclusive[item];
            return inTheWay & ~lineage;
        }

        /** The stronger of the mode and what t has already counts. */
        void grant(int t, int item, int mode) {
            if (mode <= heldBy(t, item)) {
                return;
            }
            if (mode == EXCLUSIVE) {
                shared[item] &= ~(1L << t);
                exclusive[item] |= 1L << t;
            } else {
                shared[item] |= 1L << t;
            }
        }

        void passOn(int t, int heir) {
            for (int item = 0; item < ITEMS; item++) {
                grant(heir, item, heldBy(t, item));
            }
        }

        void release(int t) {
            for (int item = 0; item < ITEMS; item++) {
                shared[item] &= ~(1L << t);
                exclusive[item] &= ~(1L << t);
            }
        }

        void releaseAll() {
            for (int item = 0; item < ITEMS; item++) {
                shared[item] = 0;
                exclusive[item] = 0;
            }
        }
    }

    /** The locks that a request asks for, in their order. */
    private static final class Plan {
        int mode;
        int size;
        final int[] items = new int[ITEMS];

        void start(int itsMode) {
            mode = itsMode;
            size = 0;
        }

        void add(int item) {
            if (size < ITEMS) {
                items[size] = item;
                size++;
            }
        }
    }

    /** Who leads to whom, for each transaction the set of those one step away. */
    private static final class Leads {
        final long[] from = new long[MOST_TRANSACTIONS];

        int greatestInCircle(int t, int count) {
            long ahead = reachedFrom(t, count);
            if ((ahead & (1L << t)) == 0) {
                return NONE;
            }
            long circle = ahead & leadingTo(t, count);
            for (int u = count - 1; u > t; u--) {
                if ((circle & (1L << u)) != 0) {
                    return u;
                }
            }
            return t;
        }

        private long reachedFrom(int t, int count) {
            long reached = from[t];
            // A round that adds nobody is the last one, so there are at most count.
            for (int round = 0; round < count; round++) {
                long before = reached;
                for (int u = 0; u < count; u++) {
                    if ((reached & (1L << u)) != 0) {
                        reached |= from[u];
                    }
                }
                if (reached == before) {
                    break;
                }
            }
            return reached;
        }

        private long leadingTo(int t, int count) {
            long leading = 1L << t;
            for (int round = 0; round < count; round++) {
                long before = leading;
                for (int u = 0; u < count; u++) {
                    if ((leading & from[u]) != 0) {
                        leading |= 1L << u;
                    }
                }
                if (leading == before) {
                    break;
                }
            }
            return leading;
        }
    }

    /** The records, in rows from 0 on: the row r has the LSN base + 1 + r. */
    private static final class Log {
        int base;
        int size;
        int flushed;
        final int[] kind = new int[ROOM];
        final int[] transaction = new int[ROOM];
        /** The parent of a BEGIN, the key of an UPDATE or UNDO. */
        final int[] subject = new int[ROOM];
        final boolean[] wasThere = new boolean[ROOM];
        final int[] oldValue = new int[ROOM];
        final boolean[] isThere = new boolean[ROOM];
        final int[] newValue = new int[ROOM];
        /** The LSN of the update that an UNDO is of. */
        final int[] undoes = new int[ROOM];
        /** Whether there is an UNDO of an UPDATE. */
        final boolean[] undone = new boolean[ROOM];

        int last() {
            return base + size;
        }

        int lsnOf(int row) {
            return base + 1 + row;
        }

        int rowOf(int lsn) {
            return lsn - base - 1;
        }

        int append(int itsKind, int by, int itsSubject) {
            // Each record that needs no room takes the place of an open update or a live
            // transaction, so that the rows never run out; the guard only keeps the index sound.
            if (size < ROOM) {
                size++;
            }
            int row = size - 1;
            kind[row] = itsKind;
            transaction[row] = by;
            subject[row] = itsSubject;
            setBefore(row, false, 0);
            setAfter(row, false, 0);
            undoes[row] = 0;
            undone[row] = false;
            return row;
        }

        void setBefore(int row, boolean there, int value) {
            wasThere[row] = there;
            oldValue[row] = value;
        }

        void setAfter(int row, boolean there, int value) {
            isThere[row] = there;
            newValue[row] = value;
        }

        /** An update whose UNDO is lost is not undone any more. */
        void loseUnflushed() {
            int kept = flushed - base;
            for (int row = kept; row < size; row++) {
                if (kind[row] == UNDO_RECORD) {
                    undone[rowOf(undoes[row])] = false;
                }
            }
            size = kept;
        }

        void empty() {
            base = last();
            size = 0;
            flushed = base;
        }
    }

    /**
     * The pages as they are and as they lie on the disk. A page in no frame is the same in both, so
     * one place for each page as it is does for all frames.
     */
    private static final class Pages {
        final int frames;
        int framesInUse;
        /** The pages in frames, the one touched last first. */
        final int[] byTouch = new int[PAGES];
        final boolean[] dirty = new boolean[PAGES];
        final int[] lsn = new int[PAGES];
        final boolean[] there = new boolean[KEYS];
        /** 0 for a key that is absent; so on the disk. */
        final int[] value = new int[KEYS];
        final int[] diskLsn = new int[PAGES];
        final boolean[] diskThere = new boolean[KEYS];
        final int[] diskValue = new int[KEYS];

        Pages(int itsFrames) {
            frames = itsFrames;
        }

        int nextItem(int k) {
            for (int next = k + 1; next < KEYS; next++) {
                if (there[next]) {
                    return next;
                }
            }
            return END;
        }

        void touch(int page, Log log) {
            int place = 0;
            while (place < framesInUse && byTouch[place] != page) {
                place++;
            }
            if (place == frames) {
                place--;
                if (dirty[byTouch[place]]) {
                    putOnDisk(byTouch[place], log);
                }
            } else if (place == framesInUse) {
                framesInUse++;
            }
            for (int i = place; i > 0; i--) {
                byTouch[i] = byTouch[i - 1];
            }
            byTouch[0] = page;
        }

        void putOnDisk(int page, Log log) {
            if (lsn[page] > log.flushed) {
                log.flushed = lsn[page];
            }
            diskLsn[page] = lsn[page];
            int first = page * KEYS_OF_A_PAGE;
            for (int k = first; k < first + KEYS_OF_A_PAGE; k++) {
                diskThere[k] = there[k];
                diskValue[k] = value[k];
            }
            dirty[page] = false;
        }

        /** The caller has touched the page. */
        void change(int k, boolean isThere, int newValue, int newLsn) {
            int page = k / KEYS_OF_A_PAGE;
            there[k] = isThere;
            value[k] = newValue;
            lsn[page] = newLsn;
            dirty[page] = true;
        }

        void loseFrames() {
            framesInUse = 0;
            for (int p = 0; p < PAGES; p++) {
                dirty[p] = false;
                lsn[p] = diskLsn[p];
            }
            for (int k = 0; k < KEYS; k++) {
                there[k] = diskThere[k];
                value[k] = diskValue[k];
            }
        }
    }
}
