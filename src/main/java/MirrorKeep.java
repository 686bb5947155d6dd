import java.util.Arrays;

/**
 * A mirror that is kept of a tree of files, session by session, with what leads
 * back to each earlier state.
 *
 * <p>Entries never change once they are made: a write puts a new entry in the old
 * one's place. So the source, the mirror, the sessions and the result share them,
 * and to keep a tree is to keep a row of references.
 */
public final class MirrorKeep {
    /** None. */
    public static final int NONE = -1;

    private static final int AT_REST = 0;
    private static final int UNDER_WAY = 1;
    private static final int BROKEN = 2;

    private static final int FILE = 1;
    private static final int DIRECTORY = 2;
    private static final int LINK = 3;

    private static final int LAST_MODE = 4095;
    private static final int MOST_ENTRIES = 60;
    private static final int MOST_FILE_BYTES = 1500;
    private static final int MOST_LINK_BYTES = 100;
    private static final int MOST_BYTES = 4000;
    private static final int MOST_OPERATIONS = 200;

    private final Tape tape;
    private final Tree source;
    private final Tree mirror;
    private final Tree result;
    private final History history;
    private final Work work;
    private final Changes compared;
    private int chosen;
    private int state;

    public MirrorKeep() {
        tape = new Tape();
        source = new Tree();
        mirror = new Tree();
        result = new Tree();
        history = new History();
        work = new Work();
        compared = new Changes();
        chosen = NONE;
        state = AT_REST;
    }

    public void feed(int a, int b, int c, int d, int e) {
        tape.makeReady(a, b, c, d, e);
    }

    public int end(int n) {
        return tape.append(n);
    }

    public int make(int kind, int mode, int time) throws IllegalArgumentException, IllegalStateException {
        if (state == UNDER_WAY) {
            throw new IllegalStateException("a session is under way");
        }
        byte[] path = tape.take();
        if (!isKind(kind) || !isMode(mode) || !isTime(time) || !Paths.isPath(path)) {
            throw new IllegalArgumentException("no such kind, mode, time or path");
        }
        if (source.find(path) != NONE || !hasDirectory(path) || source.size() >= MOST_ENTRIES) {
            throw new IllegalStateException("the entry is there, or has no directory, or the source is full");
        }
        source.put(new Entry(path, kind, mode, time, new byte[0]));
        chosen = source.find(path);
        return source.size();
    }

    public int choose() {
        chosen = source.find(tape.take());
        Entry entry = source.get(chosen);
        return entry == null ? NONE : entry.kind;
    }

    public int write(int at) throws IllegalArgumentException, IllegalStateException {
        if (state == UNDER_WAY) {
            throw new IllegalStateException("a session is under way");
        }
        byte[] bytes = tape.take();
        Entry entry = source.get(chosen);
        if (entry == null || entry.kind == DIRECTORY) {
            throw new IllegalStateException("nothing with content is chosen");
        }
        int length = entry.content.length;
        long wanted = Math.max((long) length, (long) at + bytes.length);
        if (wanted > mostBytes(entry.kind) || source.contentBytes() - length + wanted > MOST_BYTES) {
            throw new IllegalStateException("the content would be too long");
        }
        if (at < 0 || at > length) {
            throw new IllegalArgumentException("no place of the content");
        }
        source.replace(chosen, entry.withContent(overlaid(entry.content, at, bytes)));
        return (int) wanted;
    }

    public void cut(int length) throws IllegalArgumentException, IllegalStateException {
        Entry entry = source.get(chosen);
        if (state == UNDER_WAY || entry == null || entry.kind == DIRECTORY) {
            throw new IllegalStateException("a session is under way, or nothing with content is chosen");
        }
        if (length < 0 || length > entry.content.length) {
            throw new IllegalArgumentException("no length within the content");
        }
        source.replace(chosen, entry.withContent(Arrays.copyOf(entry.content, length)));
    }

    public void set(int mode, int time) throws IllegalArgumentException, IllegalStateException {
        Entry entry = source.get(chosen);
        if (state == UNDER_WAY || entry == null) {
            throw new IllegalStateException("a session is under way, or nothing is chosen");
        }
        if (!isMode(mode) || !isTime(time)) {
            throw new IllegalArgumentException("no such mode or time");
        }
        source.replace(chosen, entry.withModeAndTime(mode, time));
    }

    public int remove() throws IllegalStateException {
        Entry entry = source.get(chosen);
        if (state == UNDER_WAY || entry == null) {
            throw new IllegalStateException("a session is under way, or nothing is chosen");
        }
        int count = 1 + source.countBelow(chosen);
        source.drop(chosen, count);
        chosen = NONE;
        return count;
    }

    public int begin(int time) throws IllegalArgumentException, IllegalStateException {
        if (state != AT_REST || history.isFull()) {
            throw new IllegalStateException("not at rest, or too many sessions");
        }
        if (!isTime(time) || time <= history.latestTime()) {
            throw new IllegalArgumentException("the time is not above the latest one");
        }
        work.start(time, mirror, source);
        state = UNDER_WAY;
        return work.operations();
    }

    public int step(int n) throws IllegalStateException, IllegalArgumentException {
        if (state != UNDER_WAY) {
            throw new IllegalStateException("no session is under way");
        }
        if (!isOperationCount(n)) {
            throw new IllegalArgumentException("no such number of operations");
        }
        int count = Math.min(n, work.operations() - work.done);
        for (int k = 0; k < count; k++) {
            work.doNext(mirror);
        }
        if (work.done == work.operations()) {
            commit();
        }
        return count;
    }

    public void crash() throws IllegalStateException {
        if (state != UNDER_WAY) {
            throw new IllegalStateException("no session is under way");
        }
        state = BROKEN;
    }

    public int regress(int n) throws IllegalStateException, IllegalArgumentException {
        if (state != BROKEN) {
            throw new IllegalStateException("no session is broken");
        }
        if (!isOperationCount(n)) {
            throw new IllegalArgumentException("no such number of operations");
        }
        int count = Math.min(n, work.done);
        for (int k = 0; k < count; k++) {
            work.takeBackLast(mirror);
        }
        if (work.done == 0) {
            state = AT_REST;
        }
        return count;
    }

    public int restore(int time) throws IllegalStateException {
        Session found = history.get(history.findAsOf(time));
        if (state != AT_REST || found == null) {
            throw new IllegalStateException("not at rest, or no session of that time or ahead of it");
        }
        result.copyFrom(found.tree);
        return result.size();
    }

    public int prune(int time) throws IllegalStateException {
        if (state != AT_REST) {
            throw new IllegalStateException("not at rest");
        }
        return history.forgetAheadOf(history.findAsOf(time));
    }

    public int differ() {
        compared.find(mirror, source);
        return compared.size();
    }

    public int entry(int tree, int i, int what) {
        Entry entry = entryOf(tree, i);
        if (entry == null) {
            return NONE;
        }
        switch (what) {
            case 0: return entry.kind;
            case 1: return entry.mode;
            case 2: return entry.time;
            case 3: return entry.content.length;
            case 4: return entry.path.length;
            default: return NONE;
        }
    }

    public int at(int tree, int i, boolean path, int k) {
        Entry entry = entryOf(tree, i);
        if (entry == null) {
            return NONE;
        }
        byte[] bytes = path ? entry.path : entry.content;
        return k < 0 || k >= bytes.length ? NONE : bytes[k] & 255;
    }

    public int about(int what) {
        switch (what) {
            case 0: return state;
            case 1: return history.size();
            case 2: return state == AT_REST ? 0 : work.done;
            case 3: return source.size();
            case 4: return mirror.size();
            case 5: return result.size();
            case 6: return source.contentBytes();
            case 7: return history.increments() + (state == AT_REST ? 0 : work.increments());
            case 8: return tape.size();
            default: return NONE;
        }
    }

    public int session(int i, int what) {
        Session found = history.get(i);
        if (found == null) {
            return NONE;
        }
        switch (what) {
            case 0: return found.time;
            case 1: return i == 0 ? NONE : found.changes;
            default: return NONE;
        }
    }

    private void commit() {
        history.add(new Session(work.time, work.changes.size(), mirror));
        state = AT_REST;
    }

    private boolean hasDirectory(byte[] path) {
        int slash = Paths.lastSlash(path);
        if (slash < 0) {
            return true;
        }
        Entry directory = source.get(source.find(Arrays.copyOf(path, slash)));
        return directory != null && directory.kind == DIRECTORY;
    }

    private Entry entryOf(int tree, int i) {
        switch (tree) {
            case 0: return source.get(i);
            case 1: return mirror.get(i);
            case 2: return result.get(i);
            default: return null;
        }
    }

    private static boolean isKind(int kind) {
        return kind == FILE || kind == DIRECTORY || kind == LINK;
    }

    private static boolean isMode(int mode) {
        return mode >= 0 && mode <= LAST_MODE;
    }

    private static boolean isTime(int time) {
        return time >= 0;
    }

    private static boolean isOperationCount(int n) {
        return n >= 0 && n <= MOST_OPERATIONS;
    }

    private static int mostBytes(int kind) {
        return kind == LINK ? MOST_LINK_BYTES : MOST_FILE_BYTES;
    }

    /** The content with the bytes written over it from a place within it (or its end) on. */
    private static byte[] overlaid(byte[] content, int at, byte[] bytes) {
        byte[] all = Arrays.copyOf(content, Math.max(content.length, at + bytes.length));
        for (int i = 0; i < bytes.length; i++) {
            int place = at + i;
            if (place >= 0 && place < all.length) {
                all[place] = bytes[i];
            }
        }
        return all;
    }

    /** The bytes that are ready, and the tape that they come to. */
    private static final class Tape {
        private static final int MOST = 400;
        private static final int WORDS = 5;
        private static final int READY = 20;

        private final int[] words = new int[WORDS];
        private final byte[] bytes = new byte[MOST];
        private int count = 0;

        int size() {
            return count;
        }

        void makeReady(int a, int b, int c, int d, int e) {
            words[0] = a;
            words[1] = b;
            words[2] = c;
            words[3] = d;
            words[4] = e;
        }

        int append(int n) {
            if (n < 0 || n > READY || count + n > MOST) {
                return NONE;
            }
            for (int i = 0; i < n; i++) {
                bytes[count + i] = readyByte(i);
            }
            count += n;
            Arrays.fill(words, 0);
            return count;
        }

        byte[] take() {
            byte[] taken = Arrays.copyOf(bytes, count);
            count = 0;
            return taken;
        }

        private byte readyByte(int i) {
            int word = i >> 2;
            if (word < 0 || word >= WORDS) {
                return 0;
            }
            return (byte) (words[word] >>> (24 - 8 * (i & 3)));
        }
    }

    /** What is asked of paths as bytes: whether they are some, and their order. */
    private static final class Paths {
        private static final int MOST_NAMES = 6;
        private static final int MOST_NAME_BYTES = 24;
        private static final int SLASH = 47;
        private static final int DOT = 46;

        static boolean isPath(byte[] bytes) {
            int names = 0;
            int start = 0;
            for (int i = 0; i <= bytes.length; i++) {
                if (i == bytes.length || bytes[i] == SLASH) {
                    if (!isName(bytes, start, i)) {
                        return false;
                    }
                    names++;
                    start = i + 1;
                }
            }
            return names <= MOST_NAMES;
        }

        private static boolean isName(byte[] bytes, int from, int to) {
            int length = to - from;
            if (from < 0 || to > bytes.length || length < 1 || length > MOST_NAME_BYTES) {
                return false;
            }
            int dots = 0;
            for (int i = from; i < to; i++) {
                if (bytes[i] == 0) {
                    return false;
                }
                if (bytes[i] == DOT) {
                    dots++;
                }
            }
            return dots < length || length > 2;
        }

        /** Where the last name's slash is, NONE if there is only one name. */
        static int lastSlash(byte[] path) {
            for (int i = path.length - 1; i >= 0; i--) {
                if (path[i] == SLASH) {
                    return i;
                }
            }
            return NONE;
        }

        static boolean isBelow(byte[] path, byte[] directory) {
            if (path.length <= directory.length || path[directory.length] != SLASH) {
                return false;
            }
            for (int i = 0; i < directory.length; i++) {
                if (path[i] != directory[i]) {
                    return false;
                }
            }
            return true;
        }

        /** A slash ends a name, so it comes ahead of every byte that goes on with one. */
        static int compare(byte[] a, byte[] b) {
            for (int i = 0; i < a.length && i < b.length; i++) {
                if (a[i] != b[i]) {
                    return a[i] == SLASH ? -1 : b[i] == SLASH ? 1 : (a[i] & 255) - (b[i] & 255);
                }
            }
            return a.length - b.length;
        }
    }

    /** An entry as it was at some time; trees share it, so nothing in it ever changes. */
    private static final class Entry {
        final byte[] path;
        final int kind;
        final int mode;
        final int time;
        final byte[] content;

        Entry(byte[] path, int kind, int mode, int time, byte[] content) {
            this.path = path;
            this.kind = kind;
            this.mode = mode;
            this.time = time;
            this.content = content;
        }

        Entry withContent(byte[] other) {
            return new Entry(path, kind, mode, time, other);
        }

        Entry withModeAndTime(int otherMode, int otherTime) {
            return new Entry(path, kind, otherMode, otherTime, content);
        }

        boolean isLike(Entry other) {
            return kind == other.kind && mode == other.mode && time == other.time && hasContent(other.content);
        }

        private boolean hasContent(byte[] other) {
            if (content.length != other.length) {
                return false;
            }
            for (int i = 0; i < content.length; i++) {
                if (content[i] != other[i]) {
                    return false;
                }
            }
            return true;
        }
    }

    /** Entries in the order of their paths. */
    private static final class Tree {
        /** The mirror of a session that is not done may have as many as two trees. */
        private static final int MOST = 2 * MOST_ENTRIES;

        private final Entry[] rows = new Entry[MOST];
        private int count = 0;

        int size() {
            return count;
        }

        Entry get(int i) {
            return i < 0 || i >= count ? null : rows[i];
        }

        int find(byte[] path) {
            int place = placeOf(path);
            return isAt(place, path) ? place : NONE;
        }

        private boolean isAt(int place, byte[] path) {
            Entry entry = get(place);
            return entry != null && Paths.compare(entry.path, path) == 0;
        }

        /** How many entries lie ahead of the path. */
        private int placeOf(byte[] path) {
            int low = 0;
            int high = count;
            for (int round = 0; round < count && low < high; round++) {
                int middle = (low + high) >>> 1;
                Entry entry = get(middle);
                if (entry != null && Paths.compare(entry.path, path) < 0) {
                    low = middle + 1;
                } else {
                    high = middle;
                }
            }
            return low;
        }

        void replace(int i, Entry entry) {
            if (i >= 0 && i < count) {
                rows[i] = entry;
            }
        }

        void put(Entry entry) {
            int place = placeOf(entry.path);
            if (isAt(place, entry.path)) {
                replace(place, entry);
            } else {
                insert(place, entry);
            }
        }

        private void insert(int place, Entry entry) {
            if (place < 0 || place > count || count >= MOST) {
                return;
            }
            for (int i = count; i > place; i--) {
                rows[i] = rows[i - 1];
            }
            rows[place] = entry;
            count++;
        }

        void drop(int from, int howMany) {
            if (from < 0 || howMany < 0 || howMany > count - from) {
                return;
            }
            for (int i = from + howMany; i < count; i++) {
                rows[i - howMany] = rows[i];
            }
            count -= howMany;
        }

        /** What lies below a directory comes right behind it in order. */
        int countBelow(int directory) {
            Entry top = get(directory);
            if (top == null) {
                return 0;
            }
            int below = 0;
            for (int i = directory + 1; i < count; i++) {
                Entry entry = rows[i];
                if (entry == null || !Paths.isBelow(entry.path, top.path)) {
                    break;
                }
                below++;
            }
            return below;
        }

        int contentBytes() {
            int bytes = 0;
            for (int i = 0; i < count; i++) {
                Entry entry = rows[i];
                if (entry != null) {
                    bytes += entry.content.length;
                }
            }
            return bytes;
        }

        void copyFrom(Tree other) {
            for (int i = 0; i < other.count; i++) {
                rows[i] = other.rows[i];
            }
            count = other.count;
        }
    }

    /** The changes that lead from one tree to another, in the order of their paths. */
    private static final class Changes {
        /** No path of a full mirror need be one of a full source. */
        private static final int MOST = 3 * MOST_ENTRIES;

        private final Entry[] before = new Entry[MOST];
        private final Entry[] after = new Entry[MOST];
        private int count = 0;

        int size() {
            return count;
        }

        void find(Tree from, Tree to) {
            count = 0;
            int i = 0;
            int j = 0;
            int most = from.size() + to.size();
            for (int round = 0; round < most; round++) {
                Entry old = from.get(i);
                Entry fresh = to.get(j);
                if (old == null && fresh == null) {
                    return;
                }
                int order = order(old, fresh);
                if (order < 0) {
                    add(old, null);
                } else if (order > 0) {
                    add(null, fresh);
                } else if (old != null && fresh != null && !old.isLike(fresh)) {
                    add(old, fresh);
                }
                i += order <= 0 ? 1 : 0;
                j += order >= 0 ? 1 : 0;
            }
        }

        /** A tree that has ended has nothing ahead of what the other one still has. */
        private static int order(Entry old, Entry fresh) {
            if (old == null) {
                return 1;
            }
            return fresh == null ? -1 : Paths.compare(old.path, fresh.path);
        }

        private void add(Entry old, Entry fresh) {
            if (count < MOST) {
                before[count] = old;
                after[count] = fresh;
                count++;
            }
        }

        void apply(int i, Tree tree) {
            if (i >= 0 && i < count) {
                exchange(before[i], after[i], tree);
            }
        }

        void takeBack(int i, Tree tree) {
            if (i >= 0 && i < count) {
                exchange(after[i], before[i], tree);
            }
        }

        private static void exchange(Entry gone, Entry come, Tree tree) {
            if (come != null) {
                tree.put(come);
            } else if (gone != null) {
                tree.drop(tree.find(gone.path), 1);
            }
        }
    }

    /** The session that is under way or broken. */
    private static final class Work {
        final Changes changes = new Changes();
        int time = 0;
        int done = 0;

        void start(int newTime, Tree mirror, Tree source) {
            changes.find(mirror, source);
            time = newTime;
            done = 0;
        }

        /** MARK, two for each change, SNAPSHOT, COMMIT. */
        int operations() {
            return 3 + 2 * changes.size();
        }

        int increments() {
            return Math.min(changes.size(), done / 2);
        }

        void doNext(Tree mirror) {
            if (isUpdate(done)) {
                changes.apply(changeOf(done), mirror);
            }
            done++;
        }

        void takeBackLast(Tree mirror) {
            done--;
            if (isUpdate(done)) {
                changes.takeBack(changeOf(done), mirror);
            }
        }

        /** MARK is operation 0, so increments have odd numbers, and updates the even ones behind them. */
        private boolean isUpdate(int operation) {
            return operation >= 2 && operation <= 2 * changes.size() && (operation & 1) == 0;
        }

        private static int changeOf(int update) {
            return update / 2 - 1;
        }
    }

    /** A session that counts: its tree, and how many changes led to it. */
    private static final class Session {
        final int time;
        final int changes;
        final Tree tree;

        Session(int time, int changes, Tree tree) {
            this.time = time;
            this.changes = changes;
            this.tree = new Tree();
            this.tree.copyFrom(tree);
        }
    }

    /** The sessions that there are, the oldest one first; their times rise. */
    private static final class History {
        private static final int MOST = 40;

        private final Session[] rows = new Session[MOST];
        private int count = 0;

        int size() {
            return count;
        }

        boolean isFull() {
            return count >= MOST;
        }

        Session get(int i) {
            return i < 0 || i >= count ? null : rows[i];
        }

        int latestTime() {
            Session latest = get(count - 1);
            return latest == null ? NONE : latest.time;
        }

        void add(Session session) {
            if (count < MOST) {
                rows[count] = session;
                count++;
            }
        }

        /** The latest session whose time is not above that one. */
        int findAsOf(int time) {
            for (int i = count - 1; i >= 0; i--) {
                Session session = rows[i];
                if (session != null && session.time <= time) {
                    return i;
                }
            }
            return NONE;
        }

        int forgetAheadOf(int first) {
            if (first <= 0 || first >= count) {
                return 0;
            }
            for (int i = first; i < count; i++) {
                rows[i - first] = rows[i];
            }
            count -= first;
            return first;
        }

        /** The oldest session's lead back to nothing that there is. */
        int increments() {
            int sum = 0;
            for (int i = 1; i < count; i++) {
                Session session = rows[i];
                if (session != null) {
                    sum += session.changes;
                }
            }
            return sum;
        }
    }
}
