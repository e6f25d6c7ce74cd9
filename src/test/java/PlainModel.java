import java.util.ArrayList;
import java.util.HashMap;
import java.util.HashSet;
import java.util.List;
import java.util.Map;
import java.util.Set;
import java.util.TreeMap;
import java.util.TreeSet;

/**
 * The document once more, word by word and as slow as it likes: what is told of the state there is
 * searched for here each time, and nothing is kept twice. ModelTest holds the program against it.
 */
final class PlainModel {
    static final int NONE = -1;
    static final int WAIT = -2;
    static final int VICTIM = -3;
    static final int BUSY = -4;
    static final int FULL = -5;

    enum State { ACTIVE, WAITING, COMMITTED, ABORTED }

    enum Kind { BEGIN, UPDATE, UNDO, COMMIT, ABORTED }

    enum Asked { GET, PUT, DELETE, SCAN }

    record Request(Asked asked, int low, int high, int value) { }

    record Want(int item, int mode) { }

    /** Before and after hold the value, or null for an absent key. */
    record Rec(int lsn, Kind kind, Tx by, int key, int of, Integer before, Integer after) { }

    static final class Tx {
        final int number;
        final Tx parent;
        final Map<Integer, Integer> locks = new HashMap<>();
        State state = State.ACTIVE;
        Request request;

        Tx(int number, Tx parent) {
            this.number = number;
            this.parent = parent;
        }

        Tx top() {
            return parent == null ? this : parent.top();
        }

        int depth() {
            return parent == null ? 1 : parent.depth() + 1;
        }

        boolean live() {
            return state == State.ACTIVE || state == State.WAITING;
        }

        boolean isOrDescends(Tx other) {
            return this == other || parent != null && parent.isOrDescends(other);
        }

        int has(int item) {
            return locks.getOrDefault(item, 0);
        }
    }

    static final class Page {
        final Map<Integer, Integer> keys = new TreeMap<>();
        int lsn;
        boolean dirty;

        Page copy() {
            Page page = new Page();
            page.keys.putAll(keys);
            page.lsn = lsn;
            return page;
        }
    }

    private final int frameCount;
    private final List<Tx> all = new ArrayList<>();
    private final List<Rec> records = new ArrayList<>();
    private final Page[] disk = new Page[8];
    private final Map<Integer, Page> frames = new HashMap<>();
    private final List<Integer> touched = new ArrayList<>();
    private int last;
    private int flushed;
    private int value;

    PlainModel(int frames) {
        frameCount = frames < 1 ? 1 : frames > 8 ? 8 : frames;
        for (int p = 0; p < 8; p++) {
            disk[p] = new Page();
        }
    }

    int begin(int parent) {
        Tx its = find(parent);
        if (parent != -1 && (its == null || its.state != State.ACTIVE || its.depth() >= 4)) {
            return NONE;
        }
        if (all.size() >= 60) {
            return NONE;
        }
        if (used() + 2 > 300) {
            return FULL;
        }
        Tx t = new Tx(all.size(), its);
        all.add(t);
        add(Kind.BEGIN, t, 0, 0, null, null);
        return t.number;
    }

    int get(int t, int k) {
        return ask(t, new Request(Asked.GET, k, k, 0));
    }

    int put(int t, int k, int newValue) {
        return ask(t, new Request(Asked.PUT, k, k, newValue));
    }

    int delete(int t, int k) {
        return ask(t, new Request(Asked.DELETE, k, k, 0));
    }

    int scan(int t, int low, int high) {
        return ask(t, new Request(Asked.SCAN, low, high, 0));
    }

    int resume(int number) {
        Tx t = find(number);
        return t == null || t.state != State.WAITING ? NONE : make(t);
    }

    int value() {
        return value;
    }

    int commit(int number) {
        Tx t = find(number);
        if (t == null || t.state != State.ACTIVE) {
            return NONE;
        }
        if (busy(t)) {
            return BUSY;
        }
        add(Kind.COMMIT, t, 0, 0, null, null);
        t.state = State.COMMITTED;
        if (t.parent == null) {
            flushed = last;
        } else {
            t.locks.forEach((item, mode) -> t.parent.locks.merge(item, mode, Math::max));
        }
        t.locks.clear();
        return 0;
    }

    int abort(int number) {
        Tx t = find(number);
        return t == null || !t.live() ? NONE : end(t);
    }

    int save(int number) {
        Tx t = find(number);
        if (t == null || t.state != State.ACTIVE) {
            return NONE;
        }
        return busy(t) ? BUSY : last;
    }

    int rollback(int number, int point) {
        Tx t = find(number);
        if (t == null || t.state != State.ACTIVE || point > last) {
            return NONE;
        }
        for (Rec r : records) {
            if (r.kind == Kind.BEGIN && r.by == t && point < r.lsn) {
                return NONE;
            }
        }
        return busy(t) ? BUSY : undoAbove(t, point);
    }

    boolean write(int p) {
        if (!frames.containsKey(p) || !frames.get(p).dirty) {
            return false;
        }
        toDisk(p);
        return true;
    }

    int archive() {
        for (Tx t : all) {
            if (t.live()) {
                return NONE;
            }
        }
        int written = 0;
        for (int p = 0; p < 8; p++) {
            written += write(p) ? 1 : 0;
        }
        records.clear();
        flushed = last;
        return written;
    }

    int crash(int n) {
        if (n < 0 || n > last - flushed) {
            return NONE;
        }
        flushed += n;
        last = flushed;
        records.removeIf(r -> r.lsn > flushed);
        frames.clear();
        touched.clear();
        for (Tx t : all) {
            t.locks.clear();
            if (t.top().state != State.COMMITTED) {
                t.state = State.ABORTED;
            }
        }
        for (Rec r : new ArrayList<>(records)) {
            if (r.kind == Kind.UPDATE || r.kind == Kind.UNDO) {
                touch(r.key / 4);
                if (frames.get(r.key / 4).lsn < r.lsn) {
                    set(r.key, r.after, r.lsn);
                }
            }
        }
        int count = 0;
        for (Rec r : falling()) {
            if (r.kind == Kind.UPDATE && !undone(r) && !committed(r.by.top())) {
                undo(r, r.by.top());
                count++;
            }
        }
        flushed = last;
        return count;
    }

    int state(int t) {
        return find(t) == null ? NONE : find(t).state.ordinal() + 1;
    }

    int parent(int t) {
        return find(t) == null || find(t).parent == null ? NONE : find(t).parent.number;
    }

    int lock(int t, int item) {
        return find(t) == null || item < 0 || item > 32 ? NONE : find(t).has(item);
    }

    boolean waits(int t, int u) {
        Tx one = find(t);
        return one != null && find(u) != null && one.state == State.WAITING
                && waitsFor(one).contains(find(u));
    }

    int entry(int lsn, int what) {
        int place = records.isEmpty() ? -1 : lsn - records.get(0).lsn;
        if (lsn < 1 || place < 0 || place >= records.size()) {
            return NONE;
        }
        Rec r = records.get(place);
        boolean ofKey = r.kind == Kind.UPDATE || r.kind == Kind.UNDO;
        return switch (what) {
            case 0 -> r.kind.ordinal() + 1;
            case 1 -> r.by.number;
            case 2 -> r.kind == Kind.BEGIN ? parent(r.by.number) : ofKey ? r.key : 0;
            case 3 -> r.kind == Kind.UNDO ? r.of : ofKey && r.before != null ? 1 : 0;
            case 4 -> ofKey && r.after != null ? 1 : 0;
            case 5 -> ofKey && r.after != null ? r.after : 0;
            default -> NONE;
        };
    }

    int log(int what) {
        return switch (what) {
            case 0 -> last;
            case 1 -> flushed;
            case 2 -> records.size();
            case 3 -> openCount();
            case 4 -> liveCount();
            default -> NONE;
        };
    }

    int key(int k, int what) {
        if (k < 0 || k > 31 || what < 0 || what > 3) {
            return NONE;
        }
        Integer its = what < 2 ? valueOf(k) : disk[k / 4].keys.get(k);
        return its == null ? 0 : what % 2 == 0 ? 1 : its;
    }

    int frame(int i) {
        if (i < 0 || i >= touched.size()) {
            return NONE;
        }
        int p = touched.get(i);
        return p * 2 + (frames.get(p).dirty ? 1 : 0);
    }

    int page(int p) {
        return p < 0 || p > 7 ? NONE : asIs(p).lsn;
    }

    private Tx find(int t) {
        return t < 0 || t >= all.size() ? null : all.get(t);
    }

    private boolean busy(Tx t) {
        return all.stream().anyMatch(u -> u.parent == t && u.live());
    }

    private int liveCount() {
        return (int) all.stream().filter(Tx::live).count();
    }

    private boolean undone(Rec update) {
        return records.stream().anyMatch(r -> r.kind == Kind.UNDO && r.of == update.lsn);
    }

    private boolean committed(Tx t) {
        return records.stream().anyMatch(r -> r.kind == Kind.COMMIT && r.by == t);
    }

    private boolean open(Rec r) {
        return r.kind == Kind.UPDATE && r.by.top().live() && !undone(r);
    }

    private int openCount() {
        return (int) records.stream().filter(this::open).count();
    }

    private int used() {
        return records.size() + openCount() + liveCount();
    }

    private List<Rec> falling() {
        List<Rec> turned = new ArrayList<>();
        for (Rec r : records) {
            turned.add(0, r);
        }
        return turned;
    }

    private Page asIs(int p) {
        return frames.getOrDefault(p, disk[p]);
    }

    private Integer valueOf(int k) {
        return asIs(k / 4).keys.get(k);
    }

    private int next(int k) {
        for (int n = k + 1; n < 32; n++) {
            if (valueOf(n) != null) {
                return n;
            }
        }
        return 32;
    }

    private void toDisk(int p) {
        Page page = frames.get(p);
        flushed = Math.max(flushed, page.lsn);
        disk[p] = page.copy();
        page.dirty = false;
    }

    private void touch(int p) {
        if (!frames.containsKey(p)) {
            if (frames.size() == frameCount) {
                int oldest = touched.get(touched.size() - 1);
                write(oldest);
                frames.remove(oldest);
                touched.remove((Integer) oldest);
            }
            frames.put(p, disk[p].copy());
        }
        touched.remove((Integer) p);
        touched.add(0, p);
    }

    private void set(int k, Integer to, int lsn) {
        Page page = frames.get(k / 4);
        if (to == null) {
            page.keys.remove(k);
        } else {
            page.keys.put(k, to);
        }
        page.lsn = lsn;
        page.dirty = true;
    }

    private void add(Kind kind, Tx by, int key, int of, Integer before, Integer after) {
        last++;
        records.add(new Rec(last, kind, by, key, of, before, after));
    }

    private void update(Tx t, int k, Integer to) {
        touch(k / 4);
        add(Kind.UPDATE, t, k, 0, valueOf(k), to);
        set(k, to, last);
    }

    private void undo(Rec update, Tx by) {
        touch(update.key / 4);
        add(Kind.UNDO, by, update.key, update.lsn, null, update.before);
        set(update.key, update.before, last);
    }

    private int undoAbove(Tx t, int point) {
        int count = 0;
        for (Rec r : falling()) {
            if (r.lsn > point && open(r) && r.by.isOrDescends(t)) {
                undo(r, t);
                count++;
            }
        }
        return count;
    }

    private int end(Tx t) {
        int count = undoAbove(t, 0);
        for (int u = all.size() - 1; u >= 0; u--) {
            Tx one = all.get(u);
            if (one.live() && one.isOrDescends(t)) {
                add(Kind.ABORTED, one, 0, 0, null, null);
                one.state = State.ABORTED;
                one.locks.clear();
            }
        }
        return count;
    }

    private int ask(int number, Request request) {
        Tx t = find(number);
        boolean keys = request.low >= 0 && request.high < 32 && request.low <= request.high;
        if (t == null || t.state != State.ACTIVE || !keys) {
            return NONE;
        }
        if (busy(t)) {
            return BUSY;
        }
        t.request = request;
        return make(t);
    }

    private List<Want> wants(Request request) {
        List<Want> wants = new ArrayList<>();
        int k = request.low;
        boolean there = valueOf(k) != null;
        switch (request.asked) {
            case GET -> wants.add(new Want(there ? k : next(k), 1));
            case PUT -> {
                if (!there) {
                    wants.add(new Want(next(k), 2));
                }
                wants.add(new Want(k, 2));
            }
            case DELETE -> {
                wants.add(new Want(next(k), there ? 2 : 1));
                if (there) {
                    wants.add(new Want(k, 2));
                }
            }
            case SCAN -> {
                for (int n = k; n <= request.high; n++) {
                    if (valueOf(n) != null) {
                        wants.add(new Want(n, 1));
                    }
                }
                wants.add(new Want(next(request.high), 1));
            }
        }
        return wants;
    }

    private Set<Tx> against(Tx t, Want want) {
        Set<Tx> others = new HashSet<>();
        for (Tx u : all) {
            int has = u.has(want.item);
            boolean conflict = want.mode == 1 ? has == 2 : has > 0;
            if (conflict && !t.isOrDescends(u)) {
                others.add(u);
            }
        }
        return others;
    }

    private Set<Tx> waitsFor(Tx t) {
        for (Want want : wants(t.request)) {
            if (t.has(want.item) < want.mode && !against(t, want).isEmpty()) {
                return against(t, want);
            }
        }
        return Set.of();
    }

    private int make(Tx t) {
        for (Want want : wants(t.request)) {
            if (t.has(want.item) >= want.mode) {
                continue;
            }
            if (!against(t, want).isEmpty()) {
                t.state = State.WAITING;
                breakCircles(t);
                return t.live() ? WAIT : VICTIM;
            }
            t.locks.put(want.item, want.mode);
        }
        t.state = State.ACTIVE;
        return carryOut(t, t.request);
    }

    private void breakCircles(Tx t) {
        while (t.live() && ahead(t).contains(t)) {
            TreeSet<Integer> circle = new TreeSet<>();
            for (Tx u : ahead(t)) {
                if (ahead(u).contains(t)) {
                    circle.add(u.number);
                }
            }
            end(all.get(circle.last()));
        }
    }

    private Set<Tx> steps(Tx t) {
        Set<Tx> steps = new HashSet<>();
        if (t.state == State.WAITING) {
            steps.addAll(waitsFor(t));
        }
        for (Tx u : all) {
            if (t.live() && u.live() && u.parent == t) {
                steps.add(u);
            }
        }
        return steps;
    }

    private Set<Tx> ahead(Tx t) {
        Set<Tx> seen = new HashSet<>();
        List<Tx> todo = new ArrayList<>(steps(t));
        while (!todo.isEmpty()) {
            Tx u = todo.remove(todo.size() - 1);
            if (seen.add(u)) {
                todo.addAll(steps(u));
            }
        }
        return seen;
    }

    private int carryOut(Tx t, Request request) {
        int k = request.low;
        Integer its = valueOf(k);
        switch (request.asked) {
            case GET -> {
                touch(k / 4);
                value = its == null ? 0 : its;
                return its == null ? 0 : 1;
            }
            case PUT -> {
                if (used() + 2 > 300) {
                    return FULL;
                }
                update(t, k, request.value);
                return 0;
            }
            case DELETE -> {
                if (its == null) {
                    return 0;
                }
                if (used() + 2 > 300) {
                    return FULL;
                }
                update(t, k, null);
                return 1;
            }
            default -> {
                for (int p = k / 4; p <= request.high / 4; p++) {
                    touch(p);
                }
                int count = 0;
                int sum = 0;
                for (int n = k; n <= request.high; n++) {
                    if (valueOf(n) != null) {
                        count++;
                        sum += valueOf(n);
                    }
                }
                value = sum;
                return count;
            }
        }
    }
}
