/** Promises 16 to 19: differ, entry, at, about. */
public final class ReadingTests {
    private static final Checks CHECKS = new Checks("ReadingTests");
    private static final int[] OTHERS = {-1, Integer.MIN_VALUE, Integer.MAX_VALUE};

    public static void main(String[] args) {
        differCounts();
        entryTells();
        entryOfNone();
        atTells();
        atOfNone();
        aboutTells();
        CHECKS.end();
    }

    private static Keep sample() {
        Keep k = new Keep();
        k.make("d", Keep.DIRECTORY, 493, 5);
        k.make("d/\u00e9", Keep.FILE, 420, 7);
        k.write(0, "\u0000\u007f\u0080\u00ff");
        k.session(3);
        k.make("l", Keep.LINK, 511, 9);
        k.write(0, "d/x");
        return k;
    }

    private static void differCounts() {
        Keep k = sample();
        CHECKS.due("one more in the source", k.x().differ(), 1);
        k.remove("d");
        CHECKS.due("two more in the mirror", k.x().differ(), 3);
        k.make("d", Keep.DIRECTORY, 493, 6);
        CHECKS.due("one of them with another time", k.x().differ(), 3);
        k.x().set(493, 5);
        CHECKS.due("one as it was", k.x().differ(), 2);
        k.x().begin(4);
        CHECKS.due("under way", k.x().differ(), 2);
        k.x().step(2);
        CHECKS.due("behind an increment", k.x().differ(), 2);
        k.x().step(1);
        CHECKS.due("behind an update", k.x().differ(), 1);
        CHECKS.due("differ leaves the session", k.x().step(200), 4);
        CHECKS.due("at rest", k.x().differ(), 0);
    }

    private static void dueEntry(Keep k, int tree, int i, int... want) {
        for (int what = 0; what < want.length; what++) {
            CHECKS.due("entry(" + tree + ", " + i + ", " + what + ")", k.x().entry(tree, i, what), want[what]);
        }
    }

    private static void entryTells() {
        Keep k = sample();
        dueEntry(k, Keep.SOURCE, 0, 2, 493, 5, 0, 1);
        dueEntry(k, Keep.SOURCE, 1, 1, 420, 7, 4, 3);
        dueEntry(k, Keep.SOURCE, 2, 3, 511, 9, 3, 1);
        dueEntry(k, Keep.MIRROR, 0, 2, 493, 5, 0, 1);
        dueEntry(k, Keep.MIRROR, 1, 1, 420, 7, 4, 3);
        dueEntry(k, Keep.MIRROR, 2, -1, -1, -1, -1, -1);
        dueEntry(k, Keep.RESULT, 0, -1, -1, -1, -1, -1);
        k.x().restore(3);
        dueEntry(k, Keep.RESULT, 1, 1, 420, 7, 4, 3);
        dueEntry(k, Keep.RESULT, 2, -1, -1, -1, -1, -1);
        k.remove("d");
        dueEntry(k, Keep.SOURCE, 1, -1, -1, -1, -1, -1);
    }

    private static void entryOfNone() {
        Keep k = sample();
        k.x().restore(3);
        for (int other : OTHERS) {
            dueEntry(k, other, 0, -1, -1, -1, -1, -1);
            for (int tree = 0; tree <= 2; tree++) {
                dueEntry(k, tree, other, -1, -1, -1, -1, -1);
                CHECKS.due("entry(" + tree + ", 0, " + other + ")", k.x().entry(tree, 0, other), -1);
            }
        }
        dueEntry(k, 3, 0, -1, -1, -1, -1, -1);
        for (int tree = 0; tree <= 2; tree++) {
            CHECKS.due("entry(" + tree + ", 0, 5)", k.x().entry(tree, 0, 5), -1);
            dueEntry(k, tree, 60, -1, -1, -1, -1, -1);
            dueEntry(k, tree, 120, -1, -1, -1, -1, -1);
        }
    }

    private static void atTells() {
        Keep k = sample();
        k.x().restore(3);
        for (int tree = 0; tree <= 2; tree++) {
            CHECKS.due("content of " + tree, k.content(tree, 1), "\u0000\u007f\u0080\u00ff");
            CHECKS.due("path of " + tree, k.path(tree, 1), "d/\u00e9");
            CHECKS.due("path byte of " + tree, k.x().at(tree, 1, true, 2), 0xe9);
        }
        CHECKS.due("source link", k.content(Keep.SOURCE, 2), "d/x");
        k.choose("d/\u00e9");
        for (int i = 0; i < 3; i++) {
            k.write(4 + 100 * i, "y".repeat(100));
        }
        CHECKS.due("byte 303", k.x().at(Keep.SOURCE, 1, false, 303), 'y');
        CHECKS.due("byte 304", k.x().at(Keep.SOURCE, 1, false, 304), -1);
    }

    private static void atOfNone() {
        Keep k = sample();
        k.x().restore(3);
        for (int tree = 0; tree <= 2; tree++) {
            for (int k2 : new int[] {-1, 4, 400, 1500, Integer.MIN_VALUE, Integer.MAX_VALUE}) {
                CHECKS.due("at(" + tree + ", 1, false, " + k2 + ")", k.x().at(tree, 1, false, k2), -1);
                CHECKS.due("at(" + tree + ", 1, true, " + k2 + ")", k.x().at(tree, 1, true, k2), -1);
            }
            CHECKS.due("at(" + tree + ", 1, true, 3)", k.x().at(tree, 1, true, 3), -1);
            CHECKS.due("no content of a directory", k.x().at(tree, 0, false, 0), -1);
            for (int i : new int[] {-1, 3, 60, 120, Integer.MIN_VALUE, Integer.MAX_VALUE}) {
                CHECKS.due("at(" + tree + ", " + i + ", true, 0)", k.x().at(tree, i, true, 0), -1);
                CHECKS.due("at(" + tree + ", " + i + ", false, 0)", k.x().at(tree, i, false, 0), -1);
            }
        }
        for (int tree : new int[] {-1, 3, Integer.MIN_VALUE, Integer.MAX_VALUE}) {
            CHECKS.due("at(" + tree + ", 0, true, 0)", k.x().at(tree, 0, true, 0), -1);
        }
    }

    private static void dueAbout(String when, Keep k, int... want) {
        for (int what = 0; what < want.length; what++) {
            CHECKS.due(when + " about(" + what + ")", k.x().about(what), want[what]);
        }
    }

    private static void aboutTells() {
        Keep k = sample();
        k.tape("12345");
        dueAbout("at rest", k, 0, 1, 0, 3, 2, 0, 7, 0, 5);
        k.x().begin(9);
        dueAbout("under way", k, 1, 1, 0, 3, 2, 0, 7, 0, 5);
        k.x().step(3);
        dueAbout("behind an update", k, 1, 1, 3, 3, 3, 0, 7, 1, 5);
        k.x().crash();
        dueAbout("broken", k, 2, 1, 3, 3, 3, 0, 7, 1, 5);
        k.x().regress(2);
        dueAbout("on the way back", k, 2, 1, 1, 3, 2, 0, 7, 0, 5);
        k.x().regress(1);
        dueAbout("back at rest", k, 0, 1, 0, 3, 2, 0, 7, 0, 5);
        k.session(9);
        dueAbout("behind two sessions", k, 0, 2, 0, 3, 3, 0, 7, 1, 5);
        k.x().restore(3);
        dueAbout("behind restore", k, 0, 2, 0, 3, 3, 2, 7, 1, 5);
        k.x().prune(9);
        dueAbout("behind prune", k, 0, 1, 0, 3, 3, 2, 7, 0, 5);
        for (int what : new int[] {-1, 9, Integer.MIN_VALUE, Integer.MAX_VALUE}) {
            CHECKS.due("about(" + what + ")", k.x().about(what), -1);
        }
    }
}
