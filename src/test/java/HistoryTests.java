/** Promises 14, 15 and 20, and what about() tells of sessions: restore, prune, session. */
public final class HistoryTests {
    private static final Checks CHECKS = new Checks("HistoryTests");

    public static void main(String[] args) {
        restoreOfAnyTime();
        restoreRefusals();
        theResultStays();
        pruneForgets();
        pruneRefusals();
        sessionTells();
        incrementsAreCounted();
        sessionsAreNotMovedByTheSource();
        CHECKS.end();
    }

    /** Three sessions: at 10 {a}, at 20 {a, b, c}, at 30 {c}. */
    private static Keep three() {
        Keep k = new Keep();
        k.file("a", "first");
        k.session(10);
        k.file("b", "second");
        k.make("c", Keep.DIRECTORY);
        k.choose("a");
        k.write(5, "!");
        k.session(20);
        k.remove("a");
        k.remove("b");
        k.session(30);
        return k;
    }

    private static void restoreOfAnyTime() {
        Keep k = three();
        CHECKS.due("restore(10)", k.x().restore(10), 1);
        CHECKS.due("result of 10", k.tree(Keep.RESULT), "a:1,0,0=first");
        CHECKS.due("about(5)", k.x().about(5), 1);
        CHECKS.due("restore(19)", k.x().restore(19), 1);
        CHECKS.due("result of 19", k.tree(Keep.RESULT), "a:1,0,0=first");
        CHECKS.due("restore(20)", k.x().restore(20), 3);
        CHECKS.due("result of 20", k.tree(Keep.RESULT), "a:1,0,0=first! b:1,0,0=second c:2,0,0=");
        CHECKS.due("restore(30)", k.x().restore(30), 1);
        CHECKS.due("result of 30", k.tree(Keep.RESULT), "c:2,0,0=");
        CHECKS.due("restore(most)", k.x().restore(Integer.MAX_VALUE), 1);
        CHECKS.due("mirror", k.tree(Keep.MIRROR), "c:2,0,0=");
        CHECKS.due("source", k.tree(Keep.SOURCE), "c:2,0,0=");
        Keep empty = new Keep();
        empty.session(0);
        CHECKS.due("restore of an empty tree", empty.x().restore(0), 0);
    }

    private static void restoreRefusals() {
        Keep k = three();
        CHECKS.state("restore(9)", () -> k.x().restore(9));
        CHECKS.state("restore(-1)", () -> k.x().restore(-1));
        CHECKS.state("restore(least)", () -> k.x().restore(Integer.MIN_VALUE));
        k.x().begin(40);
        CHECKS.state("restore under way", () -> k.x().restore(30));
        k.x().step(1);
        k.x().crash();
        CHECKS.state("restore when broken", () -> k.x().restore(30));
        k.x().regress(1);
        CHECKS.due("restore at rest", k.x().restore(40), 1);
    }

    private static void theResultStays() {
        Keep k = three();
        CHECKS.due("empty ahead of any", k.x().about(5), 0);
        k.x().restore(20);
        CHECKS.state("restore(9)", () -> k.x().restore(9));
        CHECKS.due("behind a restore that throws", k.x().about(5), 3);
        k.make("x", Keep.FILE);
        k.session(50);
        k.x().prune(50);
        CHECKS.due("behind what comes", k.tree(Keep.RESULT), "a:1,0,0=first! b:1,0,0=second c:2,0,0=");
        k.x().begin(60);
        CHECKS.state("restore under way", () -> k.x().restore(50));
        CHECKS.due("under way", k.x().about(5), 3);
    }

    private static void pruneForgets() {
        Keep k = three();
        CHECKS.due("prune(9)", k.x().prune(9), 0);
        CHECKS.due("prune(least)", k.x().prune(Integer.MIN_VALUE), 0);
        CHECKS.due("prune(19)", k.x().prune(19), 0);
        CHECKS.due("sessions", k.x().about(1), 3);
        CHECKS.due("prune(29)", k.x().prune(29), 1);
        CHECKS.due("sessions then", k.x().about(1), 2);
        CHECKS.due("the oldest one", k.x().session(0, 0), 20);
        CHECKS.due("its changes", k.x().session(0, 1), -1);
        CHECKS.due("those of the next", k.x().session(1, 1), 2);
        CHECKS.state("restore(19)", () -> k.x().restore(19));
        CHECKS.due("restore(20)", k.x().restore(20), 3);
        CHECKS.due("prune(most)", k.x().prune(Integer.MAX_VALUE), 1);
        CHECKS.due("sessions left", k.x().about(1), 1);
        CHECKS.due("prune again", k.x().prune(Integer.MAX_VALUE), 0);
        CHECKS.due("the latest stays", k.x().session(0, 0), 30);
        CHECKS.argument("begin(30)", () -> k.x().begin(30));
        Keep all = three();
        CHECKS.due("prune(30)", all.x().prune(30), 2);
        CHECKS.due("mirror", all.paths(Keep.MIRROR), "c");
        CHECKS.due("prune of none", new Keep().x().prune(5), 0);
    }

    private static void pruneRefusals() {
        Keep k = three();
        k.x().begin(40);
        CHECKS.state("prune under way", () -> k.x().prune(30));
        CHECKS.state("prune(-1) under way", () -> k.x().prune(-1));
        k.x().crash();
        CHECKS.state("prune when broken", () -> k.x().prune(30));
        CHECKS.due("sessions", k.x().about(1), 3);
        k.x().regress(0);
        CHECKS.due("prune at rest", k.x().prune(30), 2);
    }

    private static void sessionTells() {
        Keep k = three();
        int[][] want = {{10, -1}, {20, 3}, {30, 2}};
        for (int i = 0; i < 3; i++) {
            CHECKS.due("session(" + i + ", 0)", k.x().session(i, 0), want[i][0]);
            CHECKS.due("session(" + i + ", 1)", k.x().session(i, 1), want[i][1]);
            for (int what : new int[] {-1, 2, Integer.MIN_VALUE, Integer.MAX_VALUE}) {
                CHECKS.due("session(" + i + ", " + what + ")", k.x().session(i, what), -1);
            }
        }
        for (int i : new int[] {-1, 3, 39, 40, Integer.MIN_VALUE, Integer.MAX_VALUE}) {
            CHECKS.due("session(" + i + ", 0)", k.x().session(i, 0), -1);
            CHECKS.due("session(" + i + ", 1)", k.x().session(i, 1), -1);
        }
        k.x().begin(40);
        k.x().step(2);
        CHECKS.due("one under way is none", k.x().session(3, 0), -1);
        k.x().step(1);
        CHECKS.due("one without changes", k.x().session(3, 1), 0);
    }

    private static void incrementsAreCounted() {
        Keep k = new Keep();
        k.make("a", Keep.FILE);
        k.make("b", Keep.FILE);
        k.x().begin(1);
        CHECKS.due("none done", k.x().about(7), 0);
        k.x().step(2);
        CHECKS.due("the first one's, too", k.x().about(7), 1);
        k.x().step(2);
        CHECKS.due("both", k.x().about(7), 2);
        k.x().crash();
        CHECKS.due("when broken", k.x().about(7), 2);
        k.x().regress(1);
        CHECKS.due("one taken back", k.x().about(7), 1);
        k.x().regress(200);
        k.session(1);
        CHECKS.due("none of the oldest one's", k.x().about(7), 0);
        k.remove("a");
        k.session(2);
        k.make("c", Keep.FILE);
        k.make("d", Keep.FILE);
        k.session(3);
        CHECKS.due("of two sessions", k.x().about(7), 3);
        k.make("e", Keep.FILE);
        k.x().begin(4);
        k.x().step(2);
        CHECKS.due("and one under way", k.x().about(7), 4);
        k.x().step(200);
        CHECKS.due("and at rest", k.x().about(7), 4);
        k.x().prune(2);
        CHECKS.due("one of them is the oldest", k.x().about(7), 3);
    }

    private static void sessionsAreNotMovedByTheSource() {
        Keep k = new Keep();
        k.file("a", "abc");
        k.session(1);
        k.choose("a");
        k.write(0, "X");
        k.x().set(9, 9);
        CHECKS.due("mirror behind write", k.tree(Keep.MIRROR), "a:1,0,0=abc");
        k.x().restore(1);
        CHECKS.due("result behind write", k.tree(Keep.RESULT), "a:1,0,0=abc");
        k.x().cut(0);
        k.x().remove();
        CHECKS.due("result behind remove", k.tree(Keep.RESULT), "a:1,0,0=abc");
        CHECKS.due("mirror behind remove", k.tree(Keep.MIRROR), "a:1,0,0=abc");
    }
}
