import java.nio.charset.StandardCharsets;

/** An object of MirrorKeep with what tests do again and again: texts on the tape, whole trees as texts. */
final class Keep {
    static final int FILE = 1;
    static final int DIRECTORY = 2;
    static final int LINK = 3;
    static final int SOURCE = 0;
    static final int MIRROR = 1;
    static final int RESULT = 2;

    private static final int MOST_CALLS = 512;

    private final MirrorKeep object = new MirrorKeep();
    private int calls = 0;

    /** The object, for one call: nothing is promised of more than 512. */
    MirrorKeep x() {
        calls++;
        if (calls > MOST_CALLS) {
            throw new AssertionError("the test makes more calls of one object than are promised");
        }
        return object;
    }

    int calls() {
        return calls;
    }

    static byte[] bytes(String text) {
        return text.getBytes(StandardCharsets.ISO_8859_1);
    }

    static int word(byte[] bytes, int from) {
        int word = 0;
        for (int i = 0; i < 4; i++) {
            word = word << 8 | (from + i < bytes.length ? bytes[from + i] & 255 : 0);
        }
        return word;
    }

    void feed(byte[] bytes, int from) {
        x().feed(word(bytes, from), word(bytes, from + 4), word(bytes, from + 8), word(bytes, from + 12),
                word(bytes, from + 16));
    }

    Keep tape(String text) {
        byte[] bytes = bytes(text);
        for (int from = 0; from < bytes.length; from += 20) {
            feed(bytes, from);
            x().end(Math.min(20, bytes.length - from));
        }
        return this;
    }

    /** Bytes that are 0 come to the tape by end() alone, so that long content takes few calls. */
    Keep zeros(int n) {
        for (int left = n; left > 0; left -= 20) {
            x().end(Math.min(20, left));
        }
        return this;
    }

    int writeZeros(int at, int n) {
        zeros(n);
        return x().write(at);
    }

    /** Content of n bytes for the entry that is chosen and has none. */
    int fill(int n) {
        int length = 0;
        for (int at = 0; at < n; at += 400) {
            length = writeZeros(at, Math.min(400, n - at));
        }
        return length;
    }

    int make(String path, int kind) {
        return make(path, kind, 0, 0);
    }

    int make(String path, int kind, int mode, int time) {
        tape(path);
        return x().make(kind, mode, time);
    }

    int file(String path, String content) {
        make(path, FILE);
        return write(0, content);
    }

    int choose(String path) {
        tape(path);
        return x().choose();
    }

    int write(int at, String text) {
        tape(text);
        return x().write(at);
    }

    int remove(String path) {
        choose(path);
        return x().remove();
    }

    int session(int time) {
        int operations = x().begin(time);
        for (int left = operations; left > 0; left -= 200) {
            x().step(Math.min(left, 200));
        }
        return operations;
    }

    String path(int tree, int i) {
        return text(tree, i, true, x().entry(tree, i, 4));
    }

    String content(int tree, int i) {
        return text(tree, i, false, x().entry(tree, i, 3));
    }

    private String text(int tree, int i, boolean path, int length) {
        StringBuilder text = new StringBuilder();
        for (int k = 0; k < length; k++) {
            text.append((char) x().at(tree, i, path, k));
        }
        return text.toString();
    }

    /** All that is told of a tree, such as "a:1,420,7=hello b:2,0,0=". */
    String tree(int tree) {
        StringBuilder all = new StringBuilder();
        for (int i = 0; i < 1000 && x().entry(tree, i, 0) != MirrorKeep.NONE; i++) {
            all.append(i == 0 ? "" : " ").append(path(tree, i)).append(':').append(x().entry(tree, i, 0));
            all.append(',').append(x().entry(tree, i, 1)).append(',').append(x().entry(tree, i, 2));
            all.append('=').append(content(tree, i));
        }
        return all.toString();
    }

    /** The paths of a tree in its order. */
    String paths(int tree) {
        StringBuilder all = new StringBuilder();
        for (int i = 0; i < 1000 && x().entry(tree, i, 0) != MirrorKeep.NONE; i++) {
            all.append(i == 0 ? "" : " ").append(path(tree, i));
        }
        return all.toString();
    }

    /** Whether an entry is chosen; only to be asked when no session is under way, and changes nothing. */
    boolean hasChosen() {
        return Checks.answer(() -> x().set(-1, -1)).equals(Checks.ARGUMENT);
    }

    /** Every answer that looking gives, but for which entry is chosen. */
    String all() {
        StringBuilder all = new StringBuilder("about");
        for (int what = 0; what <= 8; what++) {
            all.append(' ').append(x().about(what));
        }
        all.append(", differ ").append(x().differ()).append(", sessions");
        for (int i = 0; i < 1000 && x().session(i, 0) != MirrorKeep.NONE; i++) {
            all.append(' ').append(x().session(i, 0)).append('/').append(x().session(i, 1));
        }
        for (int tree = SOURCE; tree <= RESULT; tree++) {
            all.append(", tree ").append(tree).append(" [").append(tree(tree)).append(']');
        }
        return all.toString();
    }
}
