/** Promises 10 to 13, sentence by sentence: each edge that they name, from both sides, and each refused call. */
public final class EdgesOfSessions {
    private static final Checks CHECKS = new Checks("EdgesOfSessions");
    private static final int LEAST = Integer.MIN_VALUE;
    private static final int MOST = Integer.MAX_VALUE;
    private static final int[] NO_COUNTS = {-1, 201, -200, 202, 256, LEAST, MOST};

    public static void main(String[] args) {
        beginDoesNothingYet();
        beginTellsHowMany();
        beginOfNoTime();
        beginOfATimeNotAbove();
        beginWhenNotAtRest();
        beginWithForty();
        beginAgainBehindARegress();
        stepDoesTheNext();
        stepDoesAsManyAsThereAre();
        stepWithoutASession();
        stepOfAnotherNumber();
        stepOfTwoHundred();
        theFirstOfTheseIsThrown();
        crashBreaksOff();
        crashWithoutASession();
        regressDoesTheNext();
        regressDoesAsManyAsThereAre();
        regressOfNone();
        regressWhenNotBroken();
        regressOfAnotherNumber();
        regressWithoutMark();
        regressOfTwoHundred();
        CHECKS.end();
    }

    /** A session of time 5 with {a, b}; since then a was written, b removed and c made: three changes. */
    private static Keep changed() {
        Keep k = new Keep();
        k.file("a", "old");
        k.make("b", Keep.DIRECTORY, 1, 2);
        k.session(5);
        k.choose("a");
        k.write(3, "er");
        k.remove("b");
        k.make("c", Keep.LINK);
        return k;
    }

    private static Keep underWay(int done) {
        Keep k = changed();
        k.x().begin(6);
        k.x().step(done);
        return k;
    }

    private static Keep broken(int done) {
        Keep k = underWay(done);
        k.x().crash();
        return k;
    }

    private static void refused(String what, Keep k, String exception, Runnable call) {
        String before = k.all();
        CHECKS.due(what, Checks.answer(call), exception);
        CHECKS.due("all behind " + what, k.all(), before);
    }

    private static void beginDoesNothingYet() {
        CHECKS.sentence("Promise 10", "A session of a time is UNDER WAY, none of its OPERATIONS is done");
        Keep k = changed();
        String before = k.all();
        CHECKS.holds("at rest", before.startsWith("about 0 1 0 2 2 0 5 0 0, differ 3"));
        CHECKS.due("begin", k.x().begin(6), 9);
        CHECKS.due("all but the state", k.all(), before.replaceFirst("about 0", "about 1"));
        CHECKS.due("no session more", k.x().session(1, 0), -1);
        k.x().step(9);
        CHECKS.due("its time", k.x().session(1, 0), 6);
    }

    private static void beginTellsHowMany() {
        CHECKS.sentence("Promise 10", "how many it will do");
        CHECKS.due("no change", new Keep().x().begin(0), 3);
        Keep k = new Keep();
        for (int changes = 1; changes <= 60; changes++) {
            k.make("e" + changes, Keep.FILE);
        }
        CHECKS.due("sixty changes", k.x().begin(0), 123);
        CHECKS.due("step(122)", k.x().step(122), 122);
        CHECKS.due("the last", k.x().step(200), 1);
        CHECKS.due("none again", k.x().begin(1), 3);
    }

    private static void beginOfNoTime() {
        CHECKS.sentence("Promise 10", "IllegalArgumentException: the time is below 0");
        for (int time : new int[] {-1, -2, LEAST}) {
            Keep k = new Keep();
            refused("begin(" + time + ")", k, Checks.ARGUMENT, () -> k.x().begin(time));
            Keep later = changed();
            refused("begin(" + time + ")", later, Checks.ARGUMENT, () -> later.x().begin(time));
        }
        CHECKS.due("begin(0) of the first", new Keep().x().begin(0), 3);
        CHECKS.due("begin(most) of the first", new Keep().x().begin(MOST), 3);
    }

    private static void beginOfATimeNotAbove() {
        CHECKS.sentence("Promise 10", "or not above that of the latest session");
        for (int time : new int[] {5, 4, 1, 0}) {
            Keep k = changed();
            refused("begin(" + time + ")", k, Checks.ARGUMENT, () -> k.x().begin(time));
        }
        CHECKS.due("begin(6)", changed().x().begin(6), 9);
        CHECKS.due("begin(most)", changed().x().begin(MOST), 9);
        Keep k = new Keep();
        k.session(0);
        CHECKS.argument("begin(0) behind 0", () -> k.x().begin(0));
        k.session(1);
        k.session(MOST - 1);
        k.session(MOST);
        CHECKS.argument("begin(most) behind most", () -> k.x().begin(MOST));
        k.x().prune(MOST);
        CHECKS.due("one session", k.x().about(1), 1);
        CHECKS.argument("begin(1) behind a prune", () -> k.x().begin(1));
        CHECKS.due("state", k.x().about(0), 0);
    }

    private static void beginWhenNotAtRest() {
        CHECKS.sentence("Promise 10", "IllegalStateException: the repository is not AT REST");
        for (int time : new int[] {6, 7, 5, -1, LEAST, MOST}) {
            for (int done : new int[] {0, 1, 8}) {
                Keep way = underWay(done);
                refused("begin(" + time + ") UNDER WAY", way, Checks.STATE, () -> way.x().begin(time));
                Keep broken = broken(done);
                refused("begin(" + time + ") BROKEN", broken, Checks.STATE, () -> broken.x().begin(time));
            }
        }
    }

    private static void beginWithForty() {
        CHECKS.sentence("Promise 10", "or there are 40 sessions. (This first.)");
        Keep k = new Keep();
        for (int i = 0; i < 39; i++) {
            k.session(i);
        }
        CHECKS.due("a fortieth", k.x().begin(39), 3);
        k.x().step(3);
        for (int time : new int[] {40, 39, 0, -1, LEAST, MOST}) {
            CHECKS.state("begin(" + time + ")", () -> k.x().begin(time));
        }
        CHECKS.due("state", k.x().about(0), 0);
        CHECKS.due("sessions", k.x().about(1), 40);
        k.x().prune(1);
        CHECKS.argument("not above the latest", () -> k.x().begin(39));
        CHECKS.due("begin(40)", k.x().begin(40), 3);
        k.x().crash();
        k.x().regress(0);
        CHECKS.due("begin(40) behind a crash", k.x().begin(40), 3);
        k.x().step(3);
        CHECKS.state("forty again", () -> k.x().begin(41));
    }

    private static void beginAgainBehindARegress() {
        CHECKS.sentence("Promise 10", "not above that of the latest session");
        for (int done = 0; done <= 8; done++) {
            Keep k = broken(done);
            k.x().regress(200);
            CHECKS.argument("begin(5)", () -> k.x().begin(5));
            CHECKS.due("begin(6)", k.x().begin(6), 9);
            CHECKS.due("none done", k.x().about(2), 0);
            CHECKS.due("step", k.x().step(200), 9);
            CHECKS.due("changes", k.x().session(1, 1), 3);
        }
    }

    private static void stepDoesTheNext() {
        CHECKS.sentence("Promise 11", "The session that is UNDER WAY does its next n OPERATIONS (n 0 .. 200)");
        int[] mirror = {2, 2, 2, 2, 2, 1, 1, 2, 2};
        int[] increments = {0, 0, 1, 1, 2, 2, 3, 3, 3};
        for (int first = 0; first <= 8; first++) {
            for (int second = 0; first + second <= 8; second++) {
                Keep k = underWay(first);
                int done = first + second;
                CHECKS.due("step(" + second + ") at " + first, k.x().step(second), second);
                CHECKS.due("done", k.x().about(2), done);
                CHECKS.due("mirror at " + done, k.x().about(4), mirror[done]);
                CHECKS.due("increments at " + done, k.x().about(7), increments[done]);
                CHECKS.due("state", k.x().about(0), 1);
                CHECKS.due("sessions", k.x().about(1), 1);
            }
        }
    }

    private static void stepDoesAsManyAsThereAre() {
        CHECKS.sentence("Promise 11", "as many as there are: how many");
        for (int done = 0; done <= 8; done++) {
            for (int n : new int[] {9 - done, 10 - done, 200}) {
                Keep k = underWay(done);
                CHECKS.due("step(" + n + ") at " + done, k.x().step(n), 9 - done);
                CHECKS.due("all", k.all(), "about 0 2 0 2 2 0 5 3 0, differ 0, sessions 5/-1 6/3, "
                        + "tree 0 [a:1,0,0=older c:3,0,0=], tree 1 [a:1,0,0=older c:3,0,0=], tree 2 []");
            }
        }
    }

    private static void stepWithoutASession() {
        CHECKS.sentence("Promise 11", "IllegalStateException: none is.");
        for (int n : new int[] {0, 1, 200, 201, -1, LEAST, MOST}) {
            Keep fresh = new Keep();
            refused("step(" + n + ") of a new object", fresh, Checks.STATE, () -> fresh.x().step(n));
            Keep rest = changed();
            refused("step(" + n + ") AT REST", rest, Checks.STATE, () -> rest.x().step(n));
            Keep broken = broken(4);
            refused("step(" + n + ") BROKEN", broken, Checks.STATE, () -> broken.x().step(n));
            Keep done = underWay(9);
            refused("step(" + n + ") behind COMMIT", done, Checks.STATE, () -> done.x().step(n));
        }
    }

    private static void stepOfAnotherNumber() {
        CHECKS.sentence("Promise 11", "IllegalArgumentException: another n.");
        for (int n : NO_COUNTS) {
            for (int done : new int[] {0, 3, 8}) {
                Keep k = underWay(done);
                refused("step(" + n + ")", k, Checks.ARGUMENT, () -> k.x().step(n));
            }
        }
        Keep k = underWay(0);
        CHECKS.due("step(0)", k.x().step(0), 0);
        CHECKS.due("none done", k.x().about(2), 0);
    }

    /** A session of 243 operations: 60 entries go, 60 others come. */
    private static Keep longest() {
        Keep k = new Keep();
        for (String top : new String[] {"z", "a"}) {
            k.make(top, Keep.DIRECTORY);
            for (int i = 1; i < 60; i++) {
                k.make(top + "/" + i, Keep.FILE);
            }
            if (top.equals("z")) {
                k.session(1);
                k.remove("z");
            }
        }
        CHECKS.due("begin", k.x().begin(2), 243);
        return k;
    }

    private static void stepOfTwoHundred() {
        CHECKS.sentence("Promise 11", "its next n OPERATIONS (n 0 .. 200), as many as there are");
        Keep k = longest();
        CHECKS.argument("step(201)", () -> k.x().step(201));
        CHECKS.due("step(200)", k.x().step(200), 200);
        CHECKS.due("done", k.x().about(2), 200);
        CHECKS.due("state", k.x().about(0), 1);
        CHECKS.due("increments", k.x().about(7), 100);
        CHECKS.due("mirror", k.x().about(4), 81);
        CHECKS.due("the rest", k.x().step(200), 43);
        CHECKS.due("state then", k.x().about(0), 0);
        CHECKS.due("increments then", k.x().about(7), 120);
        CHECKS.due("differ", k.x().differ(), 0);
    }

    private static void theFirstOfTheseIsThrown() {
        CHECKS.sentence("Promise 11", "(The first of these, so in all calls where nothing else is said.)");
        CHECKS.state("step", () -> changed().x().step(201));
        CHECKS.state("regress", () -> changed().x().regress(-1));
        CHECKS.argument("make of what is there", () -> changed().make("a", 0));
        CHECKS.argument("make without its directory", () -> changed().make("x/y", Keep.FILE, 4096, 0));
        CHECKS.argument("make of what is no path, without its directory", () -> changed().make("x/y/", Keep.FILE));
        CHECKS.sentence("Promise 10", "(This first.)");
        CHECKS.state("begin", () -> underWay(1).x().begin(-1));
        CHECKS.sentence("Promise 7", "(This first.)");
        CHECKS.state("cut", () -> underWay(1).x().cut(-1));
        CHECKS.sentence("Promise 8", "(This first.)");
        CHECKS.state("set", () -> underWay(1).x().set(-1, -1));
        CHECKS.sentence("Promise 6", "(These ahead of the first;");
        CHECKS.state("write", () -> underWay(1).x().write(-1));
    }

    private static void crashBreaksOff() {
        CHECKS.sentence("Promise 12", "The session that is UNDER WAY breaks off: the repository is BROKEN.");
        for (int done = 0; done <= 8; done++) {
            Keep k = underWay(done);
            String before = k.all();
            k.x().crash();
            CHECKS.due("all but the state", k.all(), before.replaceFirst("about 1", "about 2"));
        }
    }

    private static void crashWithoutASession() {
        CHECKS.sentence("Promise 12", "IllegalStateException: none is.");
        Keep fresh = new Keep();
        refused("crash of a new object", fresh, Checks.STATE, () -> fresh.x().crash());
        Keep rest = changed();
        refused("crash AT REST", rest, Checks.STATE, () -> rest.x().crash());
        Keep done = underWay(9);
        refused("crash behind COMMIT", done, Checks.STATE, () -> done.x().crash());
        for (int n = 0; n <= 8; n++) {
            Keep broken = broken(n);
            refused("crash BROKEN", broken, Checks.STATE, () -> broken.x().crash());
        }
        Keep regressed = broken(3);
        regressed.x().regress(3);
        refused("crash behind a regress", regressed, Checks.STATE, () -> regressed.x().crash());
    }

    private static void regressDoesTheNext() {
        CHECKS.sentence("Promise 13", "The next n operations of a REGRESS (n 0 .. 200)");
        for (int done = 1; done <= 8; done++) {
            for (int n = 0; n < done; n++) {
                Keep k = broken(done);
                CHECKS.due("regress(" + n + ") at " + done, k.x().regress(n), n);
                String as = underWay(done - n).all();
                CHECKS.due("as behind so many operations", k.all(), as.replaceFirst("about 1", "about 2"));
            }
        }
    }

    private static void regressDoesAsManyAsThereAre() {
        CHECKS.sentence("Promise 13", "as many as there are: how many");
        String rest = changed().all();
        for (int done = 1; done <= 8; done++) {
            for (int n : new int[] {done, done + 1, 200}) {
                Keep k = broken(done);
                CHECKS.due("regress(" + n + ") at " + done, k.x().regress(n), done);
                CHECKS.due("all as ahead of the session", k.all(), rest);
            }
        }
    }

    private static void regressOfNone() {
        CHECKS.sentence("Promise 13", "(with n 0 it stays BROKEN, but for what follows)");
        for (int done = 1; done <= 8; done++) {
            Keep k = broken(done);
            String before = k.all();
            CHECKS.due("regress(0)", k.x().regress(0), 0);
            CHECKS.due("all", k.all(), before);
        }
        Keep k = broken(2);
        k.x().regress(1);
        CHECKS.due("regress(0) with MARK alone", k.x().regress(0), 0);
        CHECKS.due("state", k.x().about(0), 2);
    }

    private static void regressWhenNotBroken() {
        CHECKS.sentence("Promise 13", "IllegalStateException: the repository is not BROKEN.");
        for (int n : new int[] {0, 1, 200, 201, -1, LEAST, MOST}) {
            Keep fresh = new Keep();
            refused("regress(" + n + ") of a new object", fresh, Checks.STATE, () -> fresh.x().regress(n));
            Keep rest = changed();
            refused("regress(" + n + ") AT REST", rest, Checks.STATE, () -> rest.x().regress(n));
            Keep way = underWay(4);
            refused("regress(" + n + ") UNDER WAY", way, Checks.STATE, () -> way.x().regress(n));
            Keep done = broken(4);
            done.x().regress(4);
            refused("regress(" + n + ") behind a regress", done, Checks.STATE, () -> done.x().regress(n));
            Keep none = broken(0);
            none.x().regress(0);
            refused("regress(" + n + ") behind one of none", none, Checks.STATE, () -> none.x().regress(n));
        }
    }

    private static void regressOfAnotherNumber() {
        CHECKS.sentence("Promise 13", "IllegalArgumentException: another n.");
        for (int n : NO_COUNTS) {
            for (int done : new int[] {0, 1, 4, 8}) {
                Keep k = broken(done);
                refused("regress(" + n + ")", k, Checks.ARGUMENT, () -> k.x().regress(n));
            }
        }
    }

    private static void regressWithoutMark() {
        CHECKS.sentence("Promise 13", "(If not even MARK was done, it is AT REST by none, with any such n.)");
        for (int n : new int[] {0, 1, 2, 199, 200}) {
            Keep k = broken(0);
            CHECKS.due("state", k.x().about(0), 2);
            CHECKS.due("regress(" + n + ")", k.x().regress(n), 0);
            CHECKS.due("all as ahead of the session", k.all(), changed().all());
        }
    }

    private static void regressOfTwoHundred() {
        CHECKS.sentence("Promise 13", "operations of a REGRESS (n 0 .. 200), as many as there are");
        Keep k = longest();
        k.x().step(200);
        k.x().step(42);
        k.x().crash();
        CHECKS.argument("regress(201)", () -> k.x().regress(201));
        CHECKS.due("regress(200)", k.x().regress(200), 200);
        CHECKS.due("state", k.x().about(0), 2);
        CHECKS.due("done", k.x().about(2), 42);
        CHECKS.due("the rest", k.x().regress(200), 42);
        CHECKS.due("state then", k.x().about(0), 0);
        CHECKS.due("the mirror is that of z", k.path(Keep.MIRROR, 59), "z/9");
        CHECKS.due("differ", k.x().differ(), 120);
    }
}
