/** Promises 16 to 19, sentence by sentence: each edge that they name, from both sides. */
public final class EdgesOfReading {
    private static final Checks CHECKS = new Checks("EdgesOfReading");
    private static final int LEAST = Integer.MIN_VALUE;
    private static final int MOST = Integer.MAX_VALUE;
    private static final String CONTENT = "\0\u0001/\u007f\u0080\u00ff";

    public static void main(String[] args) {
        differOfTheMirrorAsItIs();
        differOfTheSourceAsItIs();
        differOfFullTrees();
        entryOfEachTree();
        entryOfTreesThatAreApart();
        entryOfTheMirrorAsItIs();
        entryOfNoneSuch();
        entryOfAnotherWhat();
        entryOfAnotherTree();
        entryOfFullTrees();
        atOfContentAndPath();
        atOfEveryByte();
        atBeyondByte255();
        atOfNoneSuch();
        aboutTheState();
        aboutSessions();
        aboutOperations();
        aboutEntries();
        aboutBytes();
        aboutIncrements();
        aboutTheTape();
        aboutAnother();
        lookingChangesNothing();
        CHECKS.end();
    }

    /** The session of time 3 has d and d/f; the result is its tree, and the source has l besides. */
    private static Keep sample() {
        Keep k = new Keep();
        k.make("d", Keep.DIRECTORY, 4095, MOST);
        k.make("d/\u00e9", Keep.FILE, 420, 0);
        k.write(0, CONTENT);
        k.session(3);
        k.x().restore(3);
        k.make("l", Keep.LINK, 0, 9);
        k.write(0, "d/x");
        return k;
    }

    private static void differOfTheMirrorAsItIs() {
        CHECKS.sentence("Promise 16", "between the mirror as it is");
        Keep k = sample();
        k.remove("d");
        CHECKS.due("three", k.x().differ(), 3);
        CHECKS.due("begin", k.x().begin(4), 9);
        int[] want = {3, 3, 3, 2, 2, 1, 1, 0, 0};
        for (int done = 0; done <= 8; done++) {
            CHECKS.due("done " + done, k.x().differ(), want[done]);
            k.x().step(done < 8 ? 1 : 0);
        }
        k.x().crash();
        for (int done = 8; done >= 0; done--) {
            CHECKS.due("taken back to " + done, k.x().differ(), want[done]);
            if (done > 0) {
                k.x().regress(1);
            }
        }
        CHECKS.due("state", k.x().about(0), 0);
    }

    private static void differOfTheSourceAsItIs() {
        CHECKS.sentence("Promise 16", "and the source as it is");
        Keep k = sample();
        k.x().begin(4);
        k.x().step(3);
        k.x().crash();
        CHECKS.due("as behind the session", k.x().differ(), 0);
        k.x().remove();
        CHECKS.due("l is in the mirror alone", k.x().differ(), 1);
        k.make("m", Keep.FILE);
        CHECKS.due("m in the source alone", k.x().differ(), 2);
        k.choose("d/\u00e9");
        k.write(0, "\u0001");
        CHECKS.due("another byte", k.x().differ(), 3);
        CHECKS.due("regress", k.x().regress(200), 3);
        CHECKS.due("l is nowhere", k.x().differ(), 2);
    }

    private static Keep fullOf(String top, Keep k) {
        k.make(top, Keep.DIRECTORY);
        for (int i = 1; i < 60; i++) {
            k.make(top + "/" + i, Keep.FILE);
        }
        return k;
    }

    private static void differOfFullTrees() {
        CHECKS.sentence("Promise 16", "How many CHANGES there are");
        Keep k = fullOf("z", new Keep());
        CHECKS.due("of an empty mirror", k.x().differ(), 60);
        k.session(1);
        CHECKS.due("none", k.x().differ(), 0);
        k.remove("z");
        CHECKS.due("of an empty source", k.x().differ(), 60);
        fullOf("a", k);
        CHECKS.due("of two full trees", k.x().differ(), 120);
        k.x().begin(2);
        k.x().step(121);
        k.x().crash();
        k.remove("a");
        CHECKS.due("of a mirror twice as full", k.x().differ(), 120);
        for (int i = 0; i < 40; i++) {
            k.make("m" + i, Keep.LINK);
        }
        CHECKS.due("and a source besides", k.x().differ(), 160);
    }

    private static void dueEntry(Keep k, int tree, int i, int... want) {
        for (int what = 0; what < 5; what++) {
            CHECKS.due("entry(" + tree + ", " + i + ", " + what + ")", k.x().entry(tree, i, what),
                    want.length == 0 ? -1 : want[what]);
        }
    }

    private static void entryOfEachTree() {
        CHECKS.sentence("Promise 17",
                "KIND (what = 0), MODE (1), TIME (2), how long its content is (3), its path (4)");
        Keep k = sample();
        for (int tree = Keep.SOURCE; tree <= Keep.RESULT; tree++) {
            dueEntry(k, tree, 0, 2, 4095, MOST, 0, 1);
            dueEntry(k, tree, 1, 1, 420, 0, 6, 3);
        }
        dueEntry(k, Keep.SOURCE, 2, 3, 0, 9, 3, 1);
    }

    private static void entryOfTreesThatAreApart() {
        CHECKS.sentence("Promise 17", "Of a tree (0 the source, 1 the mirror, as it is, 2 the result)");
        Keep k = new Keep();
        k.make("a", Keep.FILE, 1, 11);
        k.session(1);
        k.x().restore(1);
        k.x().set(2, 12);
        k.session(2);
        k.x().set(3, 13);
        CHECKS.due("source", k.tree(0), "a:1,3,13=");
        CHECKS.due("mirror", k.tree(1), "a:1,2,12=");
        CHECKS.due("result", k.tree(2), "a:1,1,11=");
    }

    private static void entryOfTheMirrorAsItIs() {
        CHECKS.sentence("Promise 17", "1 the mirror, as it is");
        Keep k = sample();
        k.x().begin(5);
        k.x().step(2);
        dueEntry(k, Keep.MIRROR, 2);
        k.x().step(1);
        dueEntry(k, Keep.MIRROR, 2, 3, 0, 9, 3, 1);
        k.x().crash();
        dueEntry(k, Keep.MIRROR, 2, 3, 0, 9, 3, 1);
        k.x().regress(1);
        dueEntry(k, Keep.MIRROR, 2);
        dueEntry(k, Keep.MIRROR, 1, 1, 420, 0, 6, 3);
    }

    private static void entryOfNoneSuch() {
        CHECKS.sentence("Promise 17", "NONE if there is none such");
        Keep k = sample();
        for (int tree = Keep.SOURCE; tree <= Keep.RESULT; tree++) {
            for (int i : new int[] {-1, tree == Keep.SOURCE ? 3 : 2, 59, 60, 119, 120, 180, LEAST, MOST}) {
                dueEntry(k, tree, i);
            }
            dueEntry(new Keep(), tree, 0);
        }
    }

    private static void entryOfAnotherWhat() {
        CHECKS.sentence("Promise 17", "or for another what");
        Keep k = sample();
        for (int tree = Keep.SOURCE; tree <= Keep.RESULT; tree++) {
            for (int what : new int[] {-1, 5, 6, LEAST, MOST}) {
                CHECKS.due("what " + what, k.x().entry(tree, 0, what), -1);
                CHECKS.due("of none, what " + what, k.x().entry(tree, -1, what), -1);
            }
        }
    }

    private static void entryOfAnotherTree() {
        CHECKS.sentence("Promise 17", "or for another what or tree");
        Keep k = sample();
        for (int tree : new int[] {-1, 3, 4, LEAST, MOST}) {
            dueEntry(k, tree, 0);
            CHECKS.due("path", k.x().at(tree, 0, true, 0), -1);
            CHECKS.due("content", k.x().at(tree, 1, false, 0), -1);
        }
    }

    private static void entryOfFullTrees() {
        CHECKS.sentence("Promise 17", "of its i-th entry in ORDER");
        Keep k = fullOf("d", new Keep());
        k.session(1);
        k.x().restore(1);
        for (int tree = Keep.SOURCE; tree <= Keep.RESULT; tree++) {
            CHECKS.due("entry 1", k.path(tree, 1), "d/1");
            CHECKS.due("entry 2", k.path(tree, 2), "d/10");
            CHECKS.due("entry 59", k.path(tree, 59), "d/9");
            dueEntry(k, tree, 59, 1, 0, 0, 0, 3);
            dueEntry(k, tree, 60);
        }
    }

    private static void atOfContentAndPath() {
        CHECKS.sentence("Promise 18", "of the content, or with path of the path, of a tree's i-th entry");
        Keep k = sample();
        for (int tree = Keep.SOURCE; tree <= Keep.RESULT; tree++) {
            CHECKS.due("path 0", k.path(tree, 0), "d");
            CHECKS.due("path 1", k.path(tree, 1), "d/\u00e9");
            CHECKS.due("content 1", k.content(tree, 1), CONTENT);
        }
        CHECKS.due("path 2", k.path(Keep.SOURCE, 2), "l");
        CHECKS.due("content 2", k.content(Keep.SOURCE, 2), "d/x");
    }

    private static void atOfEveryByte() {
        CHECKS.sentence("Promise 18", "Byte k (0 .. 255)");
        Keep k = new Keep();
        StringBuilder all = new StringBuilder();
        for (int b = 0; b <= 255; b++) {
            all.append((char) b);
        }
        k.file("f", all.toString());
        for (int b = 0; b <= 255; b++) {
            CHECKS.due("byte " + b, k.x().at(Keep.SOURCE, 0, false, b), b);
        }
        CHECKS.due("byte 256", k.x().at(Keep.SOURCE, 0, false, 256), -1);
    }

    private static void atBeyondByte255() {
        CHECKS.sentence("Promise 18", "Byte k");
        Keep k = new Keep();
        k.make("f", Keep.FILE);
        k.fill(1490);
        k.write(1490, "0123456789");
        k.write(255, "abc");
        CHECKS.due("byte 254", k.x().at(Keep.SOURCE, 0, false, 254), 0);
        for (int i = 0; i < 3; i++) {
            CHECKS.due("byte " + (255 + i), k.x().at(Keep.SOURCE, 0, false, 255 + i), "abc".charAt(i));
        }
        CHECKS.due("byte 1499", k.x().at(Keep.SOURCE, 0, false, 1499), '9');
        CHECKS.due("byte 1500", k.x().at(Keep.SOURCE, 0, false, 1500), -1);
        Keep deep = new Keep();
        String path = "n".repeat(24);
        for (int names = 1; names <= 6; names++) {
            deep.make(path, Keep.DIRECTORY);
            path += "/" + "n".repeat(24);
        }
        CHECKS.due("path byte 148", deep.x().at(Keep.SOURCE, 5, true, 148), 'n');
        CHECKS.due("path byte 149", deep.x().at(Keep.SOURCE, 5, true, 149), -1);
    }

    private static void atOfNoneSuch() {
        CHECKS.sentence("Promise 18", "NONE if there is none such.");
        Keep k = sample();
        for (int tree = Keep.SOURCE; tree <= Keep.RESULT; tree++) {
            for (int b : new int[] {-1, 6, 7, 255, 256, 1500, LEAST, MOST}) {
                CHECKS.due("content byte " + b, k.x().at(tree, 1, false, b), -1);
                CHECKS.due("path byte " + b, k.x().at(tree, 1, true, b), -1);
                CHECKS.due("byte " + b + " of a DIRECTORY", k.x().at(tree, 0, false, b), -1);
            }
            CHECKS.due("path byte 3", k.x().at(tree, 1, true, 3), -1);
            CHECKS.due("byte 0 of a DIRECTORY", k.x().at(tree, 0, false, 0), -1);
            for (int i : new int[] {-1, tree == Keep.SOURCE ? 3 : 2, 60, 120, LEAST, MOST}) {
                CHECKS.due("path of entry " + i, k.x().at(tree, i, true, 0), -1);
                CHECKS.due("content of entry " + i, k.x().at(tree, i, false, 0), -1);
            }
        }
    }

    private static void aboutTheState() {
        CHECKS.sentence("Promise 19", "STATE (what = 0)");
        Keep k = sample();
        CHECKS.due("AT REST", k.x().about(0), 0);
        k.x().begin(4);
        CHECKS.due("UNDER WAY", k.x().about(0), 1);
        k.x().step(4);
        CHECKS.due("UNDER WAY ahead of COMMIT", k.x().about(0), 1);
        k.x().crash();
        CHECKS.due("BROKEN", k.x().about(0), 2);
        k.x().regress(3);
        CHECKS.due("BROKEN with MARK", k.x().about(0), 2);
        k.x().regress(1);
        CHECKS.due("AT REST behind it", k.x().about(0), 0);
        k.x().begin(4);
        k.x().step(5);
        CHECKS.due("AT REST behind COMMIT", k.x().about(0), 0);
    }

    private static void aboutSessions() {
        CHECKS.sentence("Promise 19", "how many sessions (1)");
        Keep k = sample();
        CHECKS.due("one", k.x().about(1), 1);
        k.x().begin(4);
        k.x().step(4);
        CHECKS.due("one UNDER WAY is none", k.x().about(1), 1);
        k.x().crash();
        CHECKS.due("one BROKEN is none", k.x().about(1), 1);
        k.x().regress(200);
        CHECKS.due("one taken back is none", k.x().about(1), 1);
        k.session(4);
        CHECKS.due("two", k.x().about(1), 2);
        k.x().prune(4);
        CHECKS.due("one is forgotten", k.x().about(1), 1);
    }

    private static void aboutOperations() {
        CHECKS.sentence("Promise 19", "are done and not taken back (2; 0 AT REST)");
        Keep k = sample();
        CHECKS.due("AT REST", k.x().about(2), 0);
        k.x().begin(4);
        for (int done = 0; done < 4; done++) {
            CHECKS.due("UNDER WAY", k.x().about(2), done);
            k.x().step(1);
        }
        k.x().crash();
        for (int done = 4; done > 0; done--) {
            CHECKS.due("BROKEN", k.x().about(2), done);
            k.x().regress(1);
        }
        CHECKS.due("AT REST again", k.x().about(2), 0);
        k.session(4);
        CHECKS.due("AT REST behind COMMIT", k.x().about(2), 0);
    }

    private static void aboutEntries() {
        CHECKS.sentence("Promise 19", "entries of the source (3), the mirror (4), the result (5)");
        Keep k = sample();
        CHECKS.due("source", k.x().about(3), 3);
        CHECKS.due("mirror", k.x().about(4), 2);
        CHECKS.due("result", k.x().about(5), 2);
        k.remove("d");
        CHECKS.due("source then", k.x().about(3), 1);
        k.session(4);
        CHECKS.due("mirror then", k.x().about(4), 1);
        k.x().restore(4);
        CHECKS.due("result then", k.x().about(5), 1);
    }

    private static void aboutBytes() {
        CHECKS.sentence("Promise 19", "bytes of the source's content (6)");
        Keep k = sample();
        CHECKS.due("of two", k.x().about(6), 9);
        k.write(0, "abcde");
        CHECKS.due("behind write", k.x().about(6), 11);
        k.x().cut(1);
        CHECKS.due("behind cut", k.x().about(6), 7);
        k.remove("d");
        CHECKS.due("behind remove", k.x().about(6), 1);
        k.remove("l");
        CHECKS.due("of an empty source", k.x().about(6), 0);
        CHECKS.due("the mirror's are others", k.x().entry(Keep.MIRROR, 1, 3), 6);
    }

    private static void aboutIncrements() {
        CHECKS.sentence("Promise 19", "(none of the oldest one's)");
        Keep k = sample();
        CHECKS.due("one session", k.x().about(7), 0);
        k.x().begin(4);
        k.x().step(1);
        CHECKS.due("MARK alone", k.x().about(7), 0);
        CHECKS.sentence("Promise 19", "and those that are done and not taken back of one that is UNDER WAY or BROKEN");
        k.x().step(1);
        CHECKS.due("one UNDER WAY", k.x().about(7), 1);
        k.x().step(2);
        CHECKS.due("one with SNAPSHOT", k.x().about(7), 1);
        k.x().crash();
        CHECKS.due("one BROKEN", k.x().about(7), 1);
        k.x().regress(2);
        CHECKS.due("its UPDATE taken back", k.x().about(7), 1);
        k.x().regress(1);
        CHECKS.due("its INCREMENT taken back", k.x().about(7), 0);
        k.x().regress(1);
        k.session(5);
        k.remove("d");
        k.x().begin(6);
        k.x().step(4);
        CHECKS.due("and of a third", k.x().about(7), 3);
        k.x().step(200);
        CHECKS.due("of three sessions", k.x().about(7), 3);
        k.x().prune(5);
        CHECKS.due("one forgotten", k.x().about(7), 2);
        CHECKS.sentence("Promise 19", "the first one, too (7)");
        Keep first = new Keep();
        first.make("a", Keep.FILE);
        first.make("b", Keep.FILE);
        first.x().begin(1);
        int[] want = {0, 0, 1, 1, 2, 2, 2, 0};
        for (int done = 0; done < 7; done++) {
            CHECKS.due("done " + done, first.x().about(7), want[done]);
            first.x().step(1);
        }
        CHECKS.due("AT REST", first.x().about(7), 0);
    }

    private static void aboutTheTape() {
        CHECKS.sentence("Promise 19", "bytes on the tape (8)");
        Keep k = sample();
        CHECKS.due("none", k.x().about(8), 0);
        k.zeros(400);
        CHECKS.due("all", k.x().about(8), 400);
        k.x().begin(4);
        k.x().step(200);
        k.x().restore(4);
        k.x().prune(4);
        k.x().cut(0);
        k.x().set(1, 1);
        k.x().remove();
        CHECKS.due("other calls leave it", k.x().about(8), 400);
        k.x().choose();
        CHECKS.due("choose takes it", k.x().about(8), 0);
    }

    private static void aboutAnother() {
        CHECKS.sentence("Promise 19", "NONE for another what.");
        for (int what : new int[] {-1, 9, 10, LEAST, MOST}) {
            CHECKS.due("about(" + what + ")", sample().x().about(what), -1);
            CHECKS.due("about(" + what + ") of a new object", new Keep().x().about(what), -1);
        }
    }

    private static void lookingChangesNothing() {
        CHECKS.sentence("Promise 16", "between the mirror as it is and the source as it is");
        Keep k = sample();
        k.x().begin(4);
        k.x().step(2);
        String all = k.all();
        k.x().differ();
        k.x().entry(LEAST, MOST, 9);
        k.x().at(LEAST, MOST, true, 9);
        k.x().about(LEAST);
        k.x().session(MOST, LEAST);
        CHECKS.due("all", k.all(), all);
        CHECKS.due("the session goes on", k.x().step(200), 3);
    }
}
