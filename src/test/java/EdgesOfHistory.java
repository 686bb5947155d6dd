/** Promises 14, 15 and 20, sentence by sentence: each edge that they name, from both sides, and each refused call. */
public final class EdgesOfHistory {
    private static final Checks CHECKS = new Checks("EdgesOfHistory");
    private static final int LEAST = Integer.MIN_VALUE;
    private static final int MOST = Integer.MAX_VALUE;
    private static final int[] TIMES = {0, 10, 20, MOST};
    private static final String[] TREES = {"", "a:1,0,0=x", "a:1,0,0=xy b:2,1,1=", "b:2,1,1="};
    private static final int[] CHANGES = {0, 1, 2, 1};

    public static void main(String[] args) {
        restoreOfTheLatestNotAbove();
        restoreOfEachOfForty();
        restoreStays();
        restoreStaysBehindOneThatThrows();
        restoreIsEmptyAheadOfAny();
        restoreWhenNotAtRest();
        restoreOfNoSession();
        pruneForgetsWhatLiesAhead();
        pruneForgetsAllButTheLatest();
        pruneFindsNone();
        pruneWhenNotAtRest();
        sessionTellsTimeAndChanges();
        sessionOfTheOldest();
        sessionOfNoneSuch();
        sessionOfAnotherWhat();
        sessionOfMostChanges();
        CHECKS.end();
    }

    /** The first two sessions of TIMES; a is chosen. */
    private static Keep two() {
        Keep k = new Keep();
        k.session(0);
        k.file("a", "x");
        k.session(10);
        return k;
    }

    /** Sessions of TIMES with TREES. */
    private static Keep four() {
        Keep k = two();
        k.write(1, "y");
        k.make("b", Keep.DIRECTORY, 1, 1);
        k.session(20);
        k.remove("a");
        k.session(MOST);
        return k;
    }

    /** Two sessions, and behind them one of time 30 with MARK and an INCREMENT done. */
    private static Keep unfinished(boolean breaks) {
        Keep k = two();
        k.write(1, "y");
        k.x().begin(30);
        k.x().step(2);
        if (breaks) {
            k.x().crash();
        }
        return k;
    }

    private static void refused(String what, Keep k, Runnable call) {
        String before = k.all();
        CHECKS.state(what, call);
        CHECKS.due("all behind " + what, k.all(), before);
    }

    private static void restoreOfTheLatestNotAbove() {
        CHECKS.sentence("Promise 14", "THE RESULT is the tree of the latest session whose time is not above that: how many entries.");
        int[] asked = {0, 1, 9, 10, 11, 19, 20, 21, MOST - 1, MOST};
        int[] found = {0, 0, 0, 1, 1, 1, 2, 2, 2, 3};
        int[] entries = {0, 1, 2, 1};
        Keep k = four();
        for (int i = 0; i < asked.length; i++) {
            CHECKS.due("restore(" + asked[i] + ")", k.x().restore(asked[i]), entries[found[i]]);
            CHECKS.due("about(5)", k.x().about(5), entries[found[i]]);
            CHECKS.due("result of " + asked[i], k.tree(Keep.RESULT), TREES[found[i]]);
        }
        CHECKS.due("mirror", k.tree(Keep.MIRROR), TREES[3]);
        CHECKS.due("source", k.tree(Keep.SOURCE), TREES[3]);
        CHECKS.due("sessions", k.x().about(1), 4);
    }

    private static void restoreOfEachOfForty() {
        CHECKS.sentence("Promise 14", "the tree of the latest session whose time is not above that");
        Keep k = new Keep();
        k.make("f", Keep.FILE);
        for (int i = 0; i < 40; i++) {
            k.x().set(i, i);
            k.session(2 * i);
        }
        for (int i = 0; i < 40; i++) {
            CHECKS.due("restore", k.x().restore(2 * i + i % 2), 1);
            CHECKS.due("mode of session " + i, k.x().entry(Keep.RESULT, 0, 1), i);
        }
    }

    private static void restoreStays() {
        CHECKS.sentence("Promise 14", "It stays behind what comes");
        Keep k = four();
        k.x().restore(20);
        k.make("c", Keep.FILE);
        k.choose("b");
        k.x().set(9, 9);
        CHECKS.due("behind the source's", k.tree(Keep.RESULT), TREES[2]);
        k.x().prune(MOST);
        CHECKS.due("behind prune", k.tree(Keep.RESULT), TREES[2]);
        Keep way = two();
        way.x().restore(10);
        way.make("b", Keep.FILE);
        way.x().begin(11);
        way.x().step(4);
        CHECKS.due("UNDER WAY", way.tree(Keep.RESULT), TREES[1]);
        way.x().crash();
        CHECKS.due("BROKEN", way.tree(Keep.RESULT), TREES[1]);
        way.x().regress(200);
        CHECKS.due("behind regress", way.tree(Keep.RESULT), TREES[1]);
        way.session(12);
        CHECKS.due("behind a session", way.tree(Keep.RESULT), TREES[1]);
        way.x().restore(0);
        CHECKS.due("an empty one replaces it", way.tree(Keep.RESULT), "");
    }

    private static void restoreStaysBehindOneThatThrows() {
        CHECKS.sentence("Promise 14", "and behind a restore() that throws");
        Keep k = four();
        k.x().prune(10);
        k.x().restore(20);
        CHECKS.state("restore(9)", () -> k.x().restore(9));
        CHECKS.due("result", k.tree(Keep.RESULT), TREES[2]);
        Keep way = two();
        way.x().restore(10);
        way.x().begin(30);
        CHECKS.state("restore UNDER WAY", () -> way.x().restore(0));
        CHECKS.due("result UNDER WAY", way.tree(Keep.RESULT), TREES[1]);
        way.x().crash();
        CHECKS.state("restore BROKEN", () -> way.x().restore(0));
        CHECKS.due("result BROKEN", way.tree(Keep.RESULT), TREES[1]);
    }

    private static void restoreIsEmptyAheadOfAny() {
        CHECKS.sentence("Promise 14", "empty ahead of any");
        Keep k = four();
        CHECKS.due("entries", k.x().about(5), 0);
        CHECKS.due("result", k.tree(Keep.RESULT), "");
        CHECKS.state("restore(-1)", () -> k.x().restore(-1));
        CHECKS.due("behind one that throws", k.x().about(5), 0);
    }

    private static void restoreWhenNotAtRest() {
        CHECKS.sentence("Promise 14", "IllegalStateException: the repository is not AT REST");
        for (int time : new int[] {0, 10, 30, -1, LEAST, MOST}) {
            for (boolean breaks : new boolean[] {false, true}) {
                Keep k = unfinished(breaks);
                refused("restore(" + time + ")", k, () -> k.x().restore(time));
            }
        }
        Keep k = unfinished(true);
        k.x().regress(1);
        CHECKS.state("with MARK still there", () -> k.x().restore(10));
        k.x().regress(1);
        CHECKS.due("AT REST", k.x().restore(30), 1);
    }

    private static void restoreOfNoSession() {
        CHECKS.sentence("Promise 14", "or there is no such session");
        for (int time : new int[] {0, -1, LEAST, MOST}) {
            Keep k = new Keep();
            refused("restore(" + time + ") of none", k, () -> k.x().restore(time));
        }
        Keep k = four();
        refused("restore(-1)", k, () -> k.x().restore(-1));
        refused("restore(least)", k, () -> k.x().restore(LEAST));
        Keep later = new Keep();
        later.session(5);
        CHECKS.state("restore(4) ahead of 5", () -> later.x().restore(4));
        CHECKS.due("restore(5)", later.x().restore(5), 0);
        Keep pruned = four();
        pruned.x().prune(10);
        CHECKS.state("restore(9) of what was forgotten", () -> pruned.x().restore(9));
        CHECKS.due("restore(10)", pruned.x().restore(10), 1);
    }

    private static void pruneForgetsWhatLiesAhead() {
        CHECKS.sentence("Promise 15",
                "Sessions that lie ahead of the one that restore() of that time would take are forgotten: how many");
        int[] asked = {0, 9, 10, 11, 19, 20, MOST - 1, MOST};
        int[] gone = {0, 0, 1, 1, 1, 2, 2, 3};
        int[] increments = {4, 3, 1, 0};
        for (int i = 0; i < asked.length; i++) {
            Keep k = four();
            k.x().restore(10);
            CHECKS.due("prune(" + asked[i] + ")", k.x().prune(asked[i]), gone[i]);
            CHECKS.due("sessions", k.x().about(1), 4 - gone[i]);
            CHECKS.due("increments", k.x().about(7), increments[gone[i]]);
            for (int j = 0; j < 4; j++) {
                boolean there = j + gone[i] < 4;
                CHECKS.due("time " + j, k.x().session(j, 0), there ? TIMES[j + gone[i]] : -1);
                CHECKS.due("changes " + j, k.x().session(j, 1), there && j > 0 ? CHANGES[j + gone[i]] : -1);
            }
            CHECKS.due("mirror", k.tree(Keep.MIRROR), TREES[3]);
            CHECKS.due("result", k.tree(Keep.RESULT), TREES[1]);
            CHECKS.due("again", k.x().prune(asked[i]), 0);
            CHECKS.due("restore of that time", k.x().restore(asked[i]), new int[] {0, 1, 2, 1}[gone[i]]);
        }
    }

    private static void pruneForgetsAllButTheLatest() {
        CHECKS.sentence("Promise 15", "Sessions that lie ahead of the one that restore() of that time would take are forgotten");
        Keep k = new Keep();
        k.make("f", Keep.FILE);
        for (int i = 0; i < 40; i++) {
            k.x().set(i, i);
            k.session(i);
        }
        CHECKS.due("increments", k.x().about(7), 39);
        CHECKS.due("prune(most)", k.x().prune(MOST), 39);
        CHECKS.due("one is left", k.x().about(1), 1);
        CHECKS.due("the latest", k.x().session(0, 0), 39);
        CHECKS.due("no increments", k.x().about(7), 0);
        CHECKS.due("its tree", k.x().restore(39) + k.x().entry(Keep.RESULT, 0, 1), 40);
    }

    private static void pruneFindsNone() {
        CHECKS.sentence("Promise 15", "(none, 0, if that would find none)");
        for (int time : new int[] {0, -1, LEAST, MOST}) {
            Keep k = new Keep();
            CHECKS.due("prune(" + time + ") of no sessions", k.x().prune(time), 0);
        }
        for (int time : new int[] {9, 0, -1, LEAST}) {
            Keep k = four();
            k.x().prune(10);
            CHECKS.due("prune(" + time + ") ahead of all", k.x().prune(time), 0);
            CHECKS.due("sessions", k.x().about(1), 3);
            CHECKS.due("the oldest", k.x().session(0, 0), 10);
        }
    }

    private static void pruneWhenNotAtRest() {
        CHECKS.sentence("Promise 15", "IllegalStateException: the repository is not AT REST.");
        for (int time : new int[] {0, 10, 30, -1, LEAST, MOST}) {
            for (boolean breaks : new boolean[] {false, true}) {
                Keep k = unfinished(breaks);
                refused("prune(" + time + ")", k, () -> k.x().prune(time));
            }
        }
        Keep none = new Keep();
        none.x().begin(1);
        refused("of no sessions", none, () -> none.x().prune(1));
        Keep k = unfinished(true);
        k.x().regress(200);
        CHECKS.due("AT REST", k.x().prune(30), 1);
    }

    private static void sessionTellsTimeAndChanges() {
        CHECKS.sentence("Promise 20", "its time (what = 0), how many CHANGES lead from the one before to it (1");
        Keep k = four();
        for (int i = 0; i < 4; i++) {
            CHECKS.due("time of " + i, k.x().session(i, 0), TIMES[i]);
            CHECKS.due("changes of " + i, k.x().session(i, 1), i == 0 ? -1 : CHANGES[i]);
        }
        Keep same = new Keep();
        same.make("a", Keep.FILE);
        same.session(1);
        same.session(2);
        CHECKS.due("one without changes", same.x().session(1, 1), 0);
    }

    private static void sessionOfTheOldest() {
        CHECKS.sentence("Promise 20", "NONE of the oldest one");
        Keep k = new Keep();
        k.make("a", Keep.FILE);
        k.session(3);
        CHECKS.due("the only one", k.x().session(0, 1), -1);
        CHECKS.due("its time", k.x().session(0, 0), 3);
        k.make("b", Keep.FILE);
        k.session(4);
        CHECKS.due("the second", k.x().session(1, 1), 1);
        k.x().prune(4);
        CHECKS.due("it is the oldest", k.x().session(0, 0), 4);
        CHECKS.due("and has none", k.x().session(0, 1), -1);
    }

    private static void sessionOfNoneSuch() {
        CHECKS.sentence("Promise 20", "NONE if there is none such");
        for (int what = 0; what <= 1; what++) {
            for (int i : new int[] {-1, 4, 5, 39, 40, 41, LEAST, MOST}) {
                CHECKS.due("session(" + i + ", " + what + ")", four().x().session(i, what), -1);
            }
            CHECKS.due("of a new object", new Keep().x().session(0, what), -1);
            CHECKS.due("one UNDER WAY", unfinished(false).x().session(2, what), -1);
            CHECKS.due("one BROKEN", unfinished(true).x().session(2, what), -1);
        }
    }

    private static void sessionOfAnotherWhat() {
        CHECKS.sentence("Promise 20", "or for another what");
        for (int what : new int[] {-1, 2, 3, LEAST, MOST}) {
            for (int i : new int[] {0, 1, 3, 4, -1}) {
                CHECKS.due("session(" + i + ", " + what + ")", four().x().session(i, what), -1);
            }
        }
    }

    private static void sessionOfMostChanges() {
        CHECKS.sentence("Promise 20", "how many CHANGES lead from the one before to it");
        Keep k = new Keep();
        for (String top : new String[] {"b", "a"}) {
            k.make(top, Keep.DIRECTORY);
            for (int i = 1; i < 60; i++) {
                k.make(top + "/" + i, Keep.FILE);
            }
            if (top.equals("b")) {
                k.session(1);
                k.remove("b");
            }
        }
        k.session(2);
        CHECKS.due("all go and all come", k.x().session(1, 1), 120);
        k.remove("a");
        k.session(3);
        CHECKS.due("all go", k.x().session(2, 1), 60);
        CHECKS.due("increments", k.x().about(7), 180);
    }
}
