import java.util.ArrayList;
import java.util.Comparator;
import java.util.List;
import java.util.Map;
import java.util.TreeMap;
import java.util.TreeSet;

/**
 * The document once more, written for plainness with the Java library: whole trees are copied, and what the mirror is
 * follows from the trees at begin() and the number of operations that are done.
 */
final class Model {
    record Node(int kind, int mode, int time, String content) { }

    private record Kept(int time, TreeMap<String, Node> tree) { }

    private static final Comparator<String> ORDER = Model::compare;

    private String ready = "\0".repeat(20);
    private String tape = "";
    private final TreeMap<String, Node> source = new TreeMap<>(ORDER);
    private TreeMap<String, Node> result = new TreeMap<>(ORDER);
    private final List<Kept> sessions = new ArrayList<>();
    private String chosen = null;
    private int state = 0;
    private int time = 0;
    private int done = 0;
    private TreeMap<String, Node> old = new TreeMap<>(ORDER);
    private TreeMap<String, Node> goal = new TreeMap<>(ORDER);

    private static int compare(String a, String b) {
        String[] as = a.split("/", -1);
        String[] bs = b.split("/", -1);
        for (int i = 0; i < Math.min(as.length, bs.length); i++) {
            int order = as[i].compareTo(bs[i]);
            if (order != 0) {
                return order;
            }
        }
        return Integer.compare(as.length, bs.length);
    }

    private static boolean isPath(String path) {
        String[] names = path.split("/", -1);
        for (String name : names) {
            if (name.isEmpty() || name.length() > 24 || name.indexOf(0) >= 0 || name.equals(".") || name.equals("..")) {
                return false;
            }
        }
        return names.length <= 6;
    }

    private static List<String> changes(Map<String, Node> from, Map<String, Node> to) {
        TreeSet<String> all = new TreeSet<>(ORDER);
        all.addAll(from.keySet());
        all.addAll(to.keySet());
        List<String> changed = new ArrayList<>();
        for (String path : all) {
            if (!from.containsKey(path) || !from.get(path).equals(to.get(path))) {
                changed.add(path);
            }
        }
        return changed;
    }

    private TreeMap<String, Node> mirror() {
        TreeMap<String, Node> mirror = new TreeMap<>(ORDER);
        if (state == 0) {
            if (!sessions.isEmpty()) {
                mirror.putAll(sessions.get(sessions.size() - 1).tree());
            }
            return mirror;
        }
        mirror.putAll(old);
        List<String> changed = changes(old, goal);
        for (int i = 0; i < changed.size() && 2 * i + 3 <= done; i++) {
            Node now = goal.get(changed.get(i));
            if (now == null) {
                mirror.remove(changed.get(i));
            } else {
                mirror.put(changed.get(i), now);
            }
        }
        return mirror;
    }

    private int bytes() {
        return source.values().stream().mapToInt(node -> node.content().length()).sum();
    }

    private static void stateIf(boolean wrong) {
        if (wrong) {
            throw new IllegalStateException();
        }
    }

    private static void argumentIf(boolean wrong) {
        if (wrong) {
            throw new IllegalArgumentException();
        }
    }

    private String take() {
        String taken = tape;
        tape = "";
        return taken;
    }

    void feed(int a, int b, int c, int d, int e) {
        StringBuilder bytes = new StringBuilder();
        for (int word : new int[] {a, b, c, d, e}) {
            bytes.append((char) (word >>> 24)).append((char) (word >>> 16 & 255));
            bytes.append((char) (word >>> 8 & 255)).append((char) (word & 255));
        }
        ready = bytes.toString();
    }

    int end(int n) {
        if (n < 0 || n > 20 || tape.length() + n > 400) {
            return -1;
        }
        tape += ready.substring(0, n);
        ready = "\0".repeat(20);
        return tape.length();
    }

    int make(int kind, int mode, int newTime) {
        stateIf(state == 1);
        String path = take();
        argumentIf(kind < 1 || kind > 3 || mode < 0 || mode > 4095 || newTime < 0 || !isPath(path));
        stateIf(source.containsKey(path) || source.size() == 60);
        if (path.contains("/")) {
            Node parent = source.get(path.substring(0, path.lastIndexOf('/')));
            stateIf(parent == null || parent.kind() != 2);
        }
        source.put(path, new Node(kind, mode, newTime, ""));
        chosen = path;
        return source.size();
    }

    int choose() {
        String path = take();
        chosen = source.containsKey(path) ? path : null;
        return chosen == null ? -1 : source.get(chosen).kind();
    }

    int write(int at) {
        stateIf(state == 1);
        String text = take();
        stateIf(chosen == null || source.get(chosen).kind() == 2);
        Node node = source.get(chosen);
        long had = node.content().length();
        long length = Math.max(had, (long) at + text.length());
        stateIf(length > (node.kind() == 1 ? 1500 : 100) || bytes() + length - had > 4000);
        argumentIf(at < 0 || at > had);
        String rest = length > had ? "" : node.content().substring(at + text.length());
        put(node.mode(), node.time(), node.content().substring(0, at) + text + rest);
        return (int) length;
    }

    private void put(int mode, int newTime, String content) {
        source.put(chosen, new Node(source.get(chosen).kind(), mode, newTime, content));
    }

    void cut(int length) {
        stateIf(state == 1 || chosen == null || source.get(chosen).kind() == 2);
        Node node = source.get(chosen);
        argumentIf(length < 0 || length > node.content().length());
        put(node.mode(), node.time(), node.content().substring(0, length));
    }

    void set(int mode, int newTime) {
        stateIf(state == 1 || chosen == null);
        argumentIf(mode < 0 || mode > 4095 || newTime < 0);
        put(mode, newTime, source.get(chosen).content());
    }

    int remove() {
        stateIf(state == 1 || chosen == null);
        String top = chosen;
        int had = source.size();
        source.keySet().removeIf(path -> path.equals(top) || path.startsWith(top + "/"));
        chosen = null;
        return had - source.size();
    }

    int begin(int newTime) {
        stateIf(state != 0 || sessions.size() == 40);
        argumentIf(newTime < 0);
        argumentIf(!sessions.isEmpty() && newTime <= sessions.get(sessions.size() - 1).time());
        old = mirror();
        goal = new TreeMap<>(source);
        time = newTime;
        done = 0;
        state = 1;
        return operations();
    }

    private int operations() {
        return 3 + 2 * changes(old, goal).size();
    }

    int step(int n) {
        stateIf(state != 1);
        argumentIf(n < 0 || n > 200);
        int count = Math.min(n, operations() - done);
        done += count;
        if (done == operations()) {
            sessions.add(new Kept(time, goal));
            state = 0;
        }
        return count;
    }

    void crash() {
        stateIf(state != 1);
        state = 2;
    }

    int regress(int n) {
        stateIf(state != 2);
        argumentIf(n < 0 || n > 200);
        int count = Math.min(n, done);
        done -= count;
        if (done == 0) {
            state = 0;
        }
        return count;
    }

    private int asOf(int when) {
        int found = -1;
        for (int i = 0; i < sessions.size(); i++) {
            if (sessions.get(i).time() <= when) {
                found = i;
            }
        }
        return found;
    }

    int restore(int when) {
        stateIf(state != 0 || asOf(when) < 0);
        result = sessions.get(asOf(when)).tree();
        return result.size();
    }

    int prune(int when) {
        stateIf(state != 0);
        int count = Math.max(0, asOf(when));
        sessions.subList(0, count).clear();
        return count;
    }

    int differ() {
        return changes(mirror(), source).size();
    }

    private Map.Entry<String, Node> row(int tree, int i) {
        TreeMap<String, Node> of = tree == 0 ? source : tree == 1 ? mirror() : tree == 2 ? result : new TreeMap<>();
        return i < 0 || i >= of.size() ? null : new ArrayList<>(of.entrySet()).get(i);
    }

    int entry(int tree, int i, int what) {
        Map.Entry<String, Node> row = row(tree, i);
        if (row == null || what < 0 || what > 4) {
            return -1;
        }
        Node node = row.getValue();
        int[] told = {node.kind(), node.mode(), node.time(), node.content().length(), row.getKey().length()};
        return told[what];
    }

    int at(int tree, int i, boolean path, int k) {
        Map.Entry<String, Node> row = row(tree, i);
        String text = row == null ? "" : path ? row.getKey() : row.getValue().content();
        return k < 0 || k >= text.length() ? -1 : text.charAt(k);
    }

    private int increments() {
        int sum = 0;
        for (int i = 1; i < sessions.size(); i++) {
            sum += session(i, 1);
        }
        if (state != 0) {
            for (int i = 0; i < changes(old, goal).size(); i++) {
                sum += 2 * i + 2 <= done ? 1 : 0;
            }
        }
        return sum;
    }

    int about(int what) {
        if (what < 0 || what > 8) {
            return -1;
        }
        int[] told = {state, sessions.size(), state == 0 ? 0 : done, source.size(), mirror().size(), result.size(),
            bytes(), increments(), tape.length()};
        return told[what];
    }

    int session(int i, int what) {
        if (i < 0 || i >= sessions.size() || what < 0 || what > 1) {
            return -1;
        }
        if (what == 0) {
            return sessions.get(i).time();
        }
        return i == 0 ? -1 : changes(sessions.get(i - 1).tree(), sessions.get(i).tree()).size();
    }

    /** The source's paths, for runs that want one that is there. */
    List<String> sourcePaths() {
        return new ArrayList<>(source.keySet());
    }

    int latestTime() {
        return sessions.isEmpty() ? -1 : sessions.get(sessions.size() - 1).time();
    }
}
