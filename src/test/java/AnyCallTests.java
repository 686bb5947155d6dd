import java.util.ArrayList;
import java.util.List;

/**
 * Promises 4 to 20: each call with arguments on both sides of every limit, in every state of the repository, with each
 * kind of entry chosen and with tapes of all sorts. The answer, and all that looking tells behind it, are compared with
 * those of a plain model.
 */
public final class AnyCallTests {
    private static final Checks CHECKS = new Checks("AnyCallTests");
    private static final int LEAST = Integer.MIN_VALUE;
    private static final int MOST = Integer.MAX_VALUE;
    private static final int[] NUMBERS = {LEAST, -400, -1, 0, 1, 2, 3, 4, 6, 7, 20, 21, 99, 100, 101, 199, 200, 201, 400,
        1499, 1500, 1501, 4000, 4001, 4096, MOST - 1, MOST};
    private static final String[] CHOSEN = {"none", "d", "d/f", "l"};
    private static final String[] TAPES = {"", "new", "d/new", "d/f", "f/new", "none/new", "d/", "..", "\0",
        "y".repeat(101), "z".repeat(400)};
    /** Sessions that count, operations done of one behind them, whether it broke off, operations taken back. */
    private static final int[][] STATES = {{0, -1, 0, -1}, {2, -1, 0, -1}, {0, 0, 0, -1}, {2, 0, 0, -1}, {2, 1, 0, -1},
        {0, 2, 0, -1}, {2, 3, 0, -1}, {2, 6, 0, -1}, {2, 0, 1, -1}, {2, 1, 1, -1}, {2, 5, 1, 0}, {2, 6, 1, 1}, {2, 5, 1, 2},
        {0, 4, 1, 3}, {2, 6, 1, 6}, {2, 0, 1, 0}};

    private static final List<Call> LOOKS = looks();
    private static final List<Call> TAKING = callsThatTakeTheTape();
    private static final List<Call> OTHERS = otherCalls();

    public static void main(String[] args) {
        for (int[] state : STATES) {
            for (String chosen : CHOSEN) {
                List<Call> situation = situation(state, chosen);
                for (Call call : TAKING) {
                    for (String tape : TAPES) {
                        compare(situation, tape, call);
                    }
                }
                for (Call call : OTHERS) {
                    compare(situation, "tape", call);
                }
            }
        }
        CHECKS.end();
    }

    private static void compare(List<Call> situation, String tape, Call last) {
        MirrorKeep keep = new MirrorKeep();
        Model model = new Model();
        List<Call> calls = new ArrayList<>(situation);
        calls.addAll(Call.tape(tape));
        for (Call call : calls) {
            call.on(keep);
            call.on(model);
        }
        StringBuilder got = new StringBuilder(last.on(keep));
        StringBuilder want = new StringBuilder(last.on(model));
        for (Call look : LOOKS) {
            got.append(' ').append(look.on(keep));
            want.append(' ').append(look.on(model));
        }
        String where = got.toString().equals(want.toString()) ? "" : " behind " + calls;
        CHECKS.due(last + where, got.toString(), want.toString());
    }

    private static List<Call> make(String path, int kind, String content) {
        List<Call> calls = new ArrayList<>(Call.tape(path));
        calls.add(Call.of("make", kind, 1, 1));
        if (!content.isEmpty()) {
            calls.addAll(Call.tape(content));
            calls.add(Call.of("write", 0));
        }
        return calls;
    }

    private static void session(List<Call> calls, int time, int steps) {
        calls.add(Call.of("begin", time));
        calls.add(Call.of("step", steps));
    }

    /** Sessions of times 3 and 6, or none, and changes since; then what the state says of one of time 7. */
    private static List<Call> situation(int[] state, String chosen) {
        List<Call> calls = new ArrayList<>();
        calls.addAll(make("d", Keep.DIRECTORY, ""));
        calls.addAll(make("d/f", Keep.FILE, "old"));
        calls.addAll(make("gone", Keep.FILE, "gone"));
        if (state[0] > 0) {
            session(calls, 3, 200);
            calls.add(Call.of("restore", 3));
            calls.add(Call.of("remove"));
            session(calls, 6, 200);
        }
        calls.addAll(make("l", Keep.LINK, "d/f"));
        calls.addAll(make("f", Keep.FILE, "xyz"));
        if (state[1] >= 0) {
            session(calls, 7, state[1]);
        }
        if (state[2] > 0) {
            calls.add(Call.of("crash"));
        }
        if (state[3] >= 0) {
            calls.add(Call.of("regress", state[3]));
        }
        calls.addAll(Call.tape(chosen));
        calls.add(Call.of("choose"));
        return calls;
    }

    private static List<Call> looks() {
        List<Call> looks = new ArrayList<>();
        for (int what = 0; what <= 8; what++) {
            looks.add(Call.of("about", what));
        }
        looks.add(Call.of("differ"));
        for (int i = 0; i <= 3; i++) {
            looks.add(Call.of("session", i, 0));
            looks.add(Call.of("session", i, 1));
        }
        for (int tree = 0; tree <= 2; tree++) {
            for (int i = 0; i <= 5; i++) {
                for (int what = 0; what <= 4; what++) {
                    looks.add(Call.of("entry", tree, i, what));
                }
                looks.add(Call.of("at", tree, i, true, 0));
                looks.add(Call.of("at", tree, i, false, 2));
            }
        }
        // What is chosen cannot be looked at, but a new mode shows it where one may be set.
        looks.add(Call.of("set", -1, 0));
        looks.add(Call.of("set", 99, 99));
        for (int i = 0; i <= 5; i++) {
            looks.add(Call.of("entry", 0, i, 1));
        }
        return looks;
    }

    private static List<Call> callsThatTakeTheTape() {
        List<Call> calls = new ArrayList<>();
        calls.add(Call.of("choose"));
        for (int number : NUMBERS) {
            calls.add(Call.of("write", number));
            calls.add(Call.of("end", number));
        }
        int[][] made = {{1, 0, 0}, {2, 4095, MOST}, {3, 1, 1}, {0, 0, 0}, {4, 0, 0}, {1, -1, 0}, {1, 4096, 0}, {1, 0, -1},
            {LEAST, LEAST, LEAST}, {MOST, MOST, MOST}};
        for (int[] one : made) {
            calls.add(Call.of("make", one[0], one[1], one[2]));
        }
        return calls;
    }

    private static List<Call> otherCalls() {
        List<Call> calls = new ArrayList<>();
        for (String name : new String[] {"remove", "crash", "differ"}) {
            calls.add(Call.of(name));
        }
        for (String name : new String[] {"cut", "begin", "step", "regress", "restore", "prune", "about"}) {
            for (int number : NUMBERS) {
                calls.add(Call.of(name, number));
            }
        }
        for (int number : NUMBERS) {
            calls.add(Call.of("set", number, 5));
            calls.add(Call.of("set", 5, number));
            calls.add(Call.of("session", number, 0));
            calls.add(Call.of("session", 1, number));
            for (int tree = 0; tree <= 2; tree++) {
                calls.add(Call.of("entry", tree, number, 0));
                calls.add(Call.of("entry", tree, 1, number));
                calls.add(Call.of("at", tree, number, true, 0));
                calls.add(Call.of("at", tree, 1, true, number));
                calls.add(Call.of("at", tree, 1, false, number));
            }
            calls.add(Call.of("entry", number, 0, 0));
            calls.add(Call.of("at", number, 0, true, 0));
        }
        return calls;
    }
}
