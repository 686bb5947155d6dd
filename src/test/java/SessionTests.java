/** Promises 10 to 13: begin, step, crash, regress. */
public final class SessionTests {
    private static final Checks CHECKS = new Checks("SessionTests");
    private static final String OLD = "a:1,1,1=one b:1,2,2=two c:2,3,3= d:3,4,4=to";
    private static final String NEW = "a:1,1,1=ONE c:2,3,9= d:3,4,4=to e:1,0,0=";

    public static void main(String[] args) {
        beginCountsOperations();
        beginRefusals();
        beginWithFortySessions();
        beginOfAChangeInEachPart();
        stepDoesOperationsInOrder();
        stepRefusals();
        stepOfAFullChange();
        stepReplacesAKind();
        crashBreaksOff();
        regressTakesBackBehindEachOperation();
        regressBreaksOffBehindEachOperation();
        regressRefusals();
        regressWithoutMark();
        regressIsNotMovedByTheSource();
        CHECKS.end();
    }

    /** Four changes lead from its mirror, OLD, to its source: a, b, c and e, but not d. */
    private static Keep changed() {
        Keep k = new Keep();
        k.make("a", Keep.FILE, 1, 1);
        k.write(0, "one");
        k.make("b", Keep.FILE, 2, 2);
        k.write(0, "two");
        k.make("c", Keep.DIRECTORY, 3, 3);
        k.make("d", Keep.LINK, 4, 4);
        k.write(0, "to");
        k.session(10);
        k.choose("a");
        k.write(0, "ONE");
        k.remove("b");
        k.choose("c");
        k.x().set(3, 9);
        k.make("e", Keep.FILE);
        return k;
    }

    /** The mirror when the first so many of the four updates are done. */
    private static String mirror(int updates) {
        String all = updates > 0 ? "a:1,1,1=ONE" : "a:1,1,1=one";
        all += updates > 1 ? "" : " b:1,2,2=two";
        all += updates > 2 ? " c:2,3,9=" : " c:2,3,3=";
        all += " d:3,4,4=to";
        return all + (updates > 3 ? " e:1,0,0=" : "");
    }

    private static int updates(int done) {
        return Math.min(4, Math.max(0, (done - 1) / 2));
    }

    private static int increments(int done) {
        return Math.min(4, done / 2);
    }

    private static void dueState(String when, Keep k, int done) {
        CHECKS.due(when + " about(2)", k.x().about(2), done);
        CHECKS.due(when + " about(7)", k.x().about(7), increments(done));
        CHECKS.due(when + " mirror", k.tree(Keep.MIRROR), mirror(updates(done)));
    }

    private static void beginCountsOperations() {
        Keep k = new Keep();
        CHECKS.due("begin of nothing", k.x().begin(0), 3);
        CHECKS.due("state", k.x().about(0), 1);
        CHECKS.due("done", k.x().about(2), 0);
        CHECKS.due("sessions", k.x().about(1), 0);
        CHECKS.due("step", k.x().step(3), 3);
        CHECKS.due("sessions then", k.x().about(1), 1);
        k.make("a", Keep.FILE);
        CHECKS.due("begin of one change", k.x().begin(1), 5);
        CHECKS.due("mirror", k.x().about(4), 0);
        CHECKS.due("begin of four changes", changed().x().begin(11), 11);
    }

    private static void beginRefusals() {
        Keep k = new Keep();
        CHECKS.argument("begin(-1)", () -> k.x().begin(-1));
        CHECKS.argument("begin(least)", () -> k.x().begin(Integer.MIN_VALUE));
        CHECKS.due("state", k.x().about(0), 0);
        k.session(7);
        CHECKS.argument("begin(7) behind 7", () -> k.x().begin(7));
        CHECKS.argument("begin(6) behind 7", () -> k.x().begin(6));
        CHECKS.argument("begin(-1) behind 7", () -> k.x().begin(-1));
        CHECKS.due("begin(8)", k.x().begin(8), 3);
        CHECKS.state("begin under way", () -> k.x().begin(9));
        CHECKS.state("begin(-1) under way", () -> k.x().begin(-1));
        k.x().step(1);
        k.x().crash();
        CHECKS.state("begin when broken", () -> k.x().begin(9));
        CHECKS.state("begin(-1) when broken", () -> k.x().begin(-1));
        k.x().regress(1);
        CHECKS.due("begin(8) again", k.x().begin(8), 3);
        k.x().step(3);
        CHECKS.due("begin(most)", k.x().begin(Integer.MAX_VALUE), 3);
        k.x().step(3);
        CHECKS.argument("begin(most) again", () -> k.x().begin(Integer.MAX_VALUE));
    }

    private static void beginWithFortySessions() {
        Keep k = new Keep();
        for (int i = 0; i < 40; i++) {
            k.session(i);
        }
        CHECKS.due("sessions", k.x().about(1), 40);
        CHECKS.state("a 41st", () -> k.x().begin(40));
        CHECKS.state("a 41st of no time", () -> k.x().begin(-1));
        CHECKS.due("state", k.x().about(0), 0);
        CHECKS.due("prune(1)", k.x().prune(1), 1);
        CHECKS.argument("begin(39)", () -> k.x().begin(39));
        CHECKS.due("begin(40)", k.x().begin(40), 3);
        k.x().step(3);
        CHECKS.due("the oldest", k.x().session(0, 0), 1);
        CHECKS.due("the latest", k.x().session(39, 0), 40);
        CHECKS.due("none behind it", k.x().session(40, 0), -1);
    }

    private static void beginOfAChangeInEachPart() {
        Keep k = new Keep();
        k.make("f", Keep.FILE, 1, 1);
        k.write(0, "abc");
        k.session(1);
        CHECKS.due("no change", k.x().differ(), 0);
        k.choose("f");
        k.x().set(2, 1);
        CHECKS.due("another mode", k.x().differ(), 1);
        k.x().set(1, 2);
        CHECKS.due("another time", k.x().differ(), 1);
        k.x().set(1, 1);
        CHECKS.due("all as it was", k.x().differ(), 0);
        k.write(2, "d");
        CHECKS.due("another last byte", k.x().differ(), 1);
        k.write(0, "bbc");
        CHECKS.due("another first byte", k.x().differ(), 1);
        k.write(0, "a");
        CHECKS.due("the same bytes", k.x().differ(), 0);
        k.x().cut(2);
        CHECKS.due("a byte less", k.x().differ(), 1);
        k.x().cut(0);
        k.session(2);
        CHECKS.due("a change", k.x().session(1, 1), 1);
        k.remove("f");
        CHECKS.due("removed", k.x().differ(), 1);
        k.make("f", Keep.LINK, 1, 1);
        CHECKS.due("another kind", k.x().differ(), 1);
        k.remove("f");
        k.make("f", Keep.FILE, 1, 1);
        CHECKS.due("made again", k.x().differ(), 0);
    }

    private static void stepDoesOperationsInOrder() {
        Keep k = changed();
        k.x().begin(20);
        for (int done = 0; done <= 10; done++) {
            dueState("done " + done, k, done);
            CHECKS.due("state " + done, k.x().about(0), 1);
            CHECKS.due("sessions " + done, k.x().about(1), 1);
            CHECKS.due("step(1) " + done, k.x().step(1), 1);
        }
        CHECKS.due("state then", k.x().about(0), 0);
        CHECKS.due("sessions then", k.x().about(1), 2);
        CHECKS.due("done then", k.x().about(2), 0);
        CHECKS.due("increments then", k.x().about(7), 4);
        CHECKS.due("time", k.x().session(1, 0), 20);
        CHECKS.due("changes", k.x().session(1, 1), 4);
        CHECKS.due("differ", k.x().differ(), 0);
    }

    private static void stepRefusals() {
        Keep k = changed();
        CHECKS.state("step at rest", () -> k.x().step(1));
        CHECKS.state("step(-1) at rest", () -> k.x().step(-1));
        k.x().begin(20);
        for (int n : new int[] {-1, 201, Integer.MIN_VALUE, Integer.MAX_VALUE}) {
            CHECKS.argument("step(" + n + ")", () -> k.x().step(n));
        }
        CHECKS.due("done", k.x().about(2), 0);
        CHECKS.due("step(0)", k.x().step(0), 0);
        CHECKS.due("step(4)", k.x().step(4), 4);
        CHECKS.due("step(0) again", k.x().step(0), 0);
        CHECKS.due("step(200)", k.x().step(200), 7);
        CHECKS.state("step behind the commit", () -> k.x().step(0));
        CHECKS.due("mirror", k.tree(Keep.MIRROR), NEW);
        CHECKS.due("restore", k.x().restore(10), 4);
        CHECKS.due("result", k.tree(Keep.RESULT), OLD);
        CHECKS.state("crash behind the commit", () -> k.x().crash());
        k.x().begin(30);
        k.x().crash();
        CHECKS.state("step when broken", () -> k.x().step(1));
        CHECKS.state("step(201) when broken", () -> k.x().step(201));
    }

    /** 60 entries go and 60 come ahead of them, so that the mirror has 120 for a while. */
    private static void stepOfAFullChange() {
        Keep k = new Keep();
        k.make("z", Keep.DIRECTORY);
        for (int i = 1; i < 60; i++) {
            k.make("z/" + i, Keep.FILE);
        }
        k.session(1);
        k.remove("z");
        k.make("a", Keep.DIRECTORY);
        for (int i = 1; i < 60; i++) {
            k.make("a/" + i, Keep.FILE);
        }
        CHECKS.due("differ", k.x().differ(), 120);
        CHECKS.due("begin", k.x().begin(2), 243);
        CHECKS.due("step(121)", k.x().step(121), 121);
        CHECKS.due("mirror", k.x().about(4), 120);
        CHECKS.due("increments", k.x().about(7), 60);
        CHECKS.due("first", k.path(Keep.MIRROR, 0), "a");
        CHECKS.due("60th", k.path(Keep.MIRROR, 60), "z");
        CHECKS.due("last", k.path(Keep.MIRROR, 119), "z/9");
        CHECKS.due("differ then", k.x().differ(), 60);
        CHECKS.due("step(121) more", k.x().step(121), 121);
        CHECKS.due("mirror then", k.x().about(4), 60);
        k.x().crash();
        CHECKS.due("regress(200)", k.x().regress(200), 200);
        CHECKS.due("about(2)", k.x().about(2), 42);
        CHECKS.due("mirror when broken", k.x().about(4), 80);
        CHECKS.due("regress(200) more", k.x().regress(200), 42);
        CHECKS.due("mirror at rest", k.x().about(4), 60);
        CHECKS.due("begin again", k.x().begin(2), 243);
        CHECKS.due("step(200)", k.x().step(200), 200);
        CHECKS.due("step(200) more", k.x().step(200), 43);
        CHECKS.due("changes", k.x().session(1, 1), 120);
        CHECKS.due("restore", k.x().restore(1), 60);
        CHECKS.due("result", k.path(Keep.RESULT, 59), "z/9");
    }

    private static void stepReplacesAKind() {
        Keep k = new Keep();
        k.make("d", Keep.DIRECTORY);
        k.file("d/f", "abc");
        k.session(1);
        k.remove("d");
        k.file("d", "now a file");
        CHECKS.due("begin", k.x().begin(2), 7);
        k.x().step(3);
        CHECKS.due("a file with what was below it", k.tree(Keep.MIRROR), "d:1,0,0=now a file d/f:1,0,0=abc");
        k.x().step(2);
        CHECKS.due("mirror", k.tree(Keep.MIRROR), "d:1,0,0=now a file");
        k.x().crash();
        CHECKS.due("regress", k.x().regress(200), 5);
        CHECKS.due("mirror then", k.tree(Keep.MIRROR), "d:2,0,0= d/f:1,0,0=abc");
    }

    private static void crashBreaksOff() {
        Keep k = changed();
        CHECKS.state("crash at rest", () -> k.x().crash());
        k.x().begin(20);
        k.x().step(5);
        k.x().crash();
        CHECKS.due("state", k.x().about(0), 2);
        dueState("broken", k, 5);
        CHECKS.due("sessions", k.x().about(1), 1);
        CHECKS.state("crash when broken", () -> k.x().crash());
        CHECKS.state("restore when broken", () -> k.x().restore(10));
        CHECKS.state("prune when broken", () -> k.x().prune(10));
        CHECKS.due("state still", k.x().about(0), 2);
    }

    private static void regressTakesBackBehindEachOperation() {
        for (int done = 1; done <= 10; done++) {
            Keep k = changed();
            k.x().begin(20);
            k.x().step(done);
            k.x().crash();
            CHECKS.due("regress(0) of " + done, k.x().regress(0), 0);
            CHECKS.due("state of " + done, k.x().about(0), 2);
            CHECKS.due("regress(200) of " + done, k.x().regress(200), done);
            CHECKS.due("state behind " + done, k.x().about(0), 0);
            dueState("behind " + done, k, 0);
            CHECKS.due("sessions behind " + done, k.x().about(1), 1);
            CHECKS.due("begin behind " + done, k.x().begin(11), 11);
        }
    }

    private static void regressBreaksOffBehindEachOperation() {
        Keep k = changed();
        k.x().begin(20);
        k.x().step(10);
        k.x().crash();
        for (int left = 9; left >= 1; left--) {
            CHECKS.due("regress(1) to " + left, k.x().regress(1), 1);
            dueState("left " + left, k, left);
        }
        CHECKS.due("state", k.x().about(0), 2);
        CHECKS.due("regress(1) of MARK", k.x().regress(1), 1);
        CHECKS.due("state then", k.x().about(0), 0);
        CHECKS.state("regress at rest", () -> k.x().regress(1));
    }

    private static void regressRefusals() {
        Keep k = changed();
        CHECKS.state("regress at rest", () -> k.x().regress(1));
        CHECKS.state("regress(-1) at rest", () -> k.x().regress(-1));
        k.x().begin(20);
        CHECKS.state("regress under way", () -> k.x().regress(1));
        CHECKS.state("regress(201) under way", () -> k.x().regress(201));
        k.x().step(4);
        k.x().crash();
        for (int n : new int[] {-1, 201, Integer.MIN_VALUE, Integer.MAX_VALUE}) {
            CHECKS.argument("regress(" + n + ")", () -> k.x().regress(n));
        }
        CHECKS.due("done", k.x().about(2), 4);
        CHECKS.due("regress(3)", k.x().regress(3), 3);
        CHECKS.state("step when broken", () -> k.x().step(1));
        CHECKS.due("regress(4)", k.x().regress(4), 1);
    }

    private static void regressWithoutMark() {
        for (int n : new int[] {0, 1, 200}) {
            Keep k = changed();
            k.x().begin(20);
            k.x().crash();
            CHECKS.due("state", k.x().about(0), 2);
            CHECKS.argument("regress(201) without MARK", () -> k.x().regress(201));
            CHECKS.argument("regress(-1) without MARK", () -> k.x().regress(-1));
            CHECKS.due("state still", k.x().about(0), 2);
            CHECKS.due("regress(" + n + ") without MARK", k.x().regress(n), 0);
            CHECKS.due("state then", k.x().about(0), 0);
        }
    }

    private static void regressIsNotMovedByTheSource() {
        Keep k = changed();
        k.x().begin(20);
        k.x().step(10);
        k.x().crash();
        k.remove("a");
        k.remove("c");
        k.make("b", Keep.LINK);
        k.make("x", Keep.FILE);
        CHECKS.due("differ when broken", k.x().differ(), 4);
        CHECKS.due("the mirror stays", k.tree(Keep.MIRROR), NEW);
        CHECKS.due("differ leaves the session", k.x().about(7), 4);
        CHECKS.due("regress(4)", k.x().regress(4), 4);
        CHECKS.due("differ on the way", k.x().differ(), 5);
        CHECKS.due("regress", k.x().regress(200), 6);
        CHECKS.due("the mirror as it was", k.tree(Keep.MIRROR), OLD);
        CHECKS.due("source", k.paths(Keep.SOURCE), "b d e x");
    }
}
