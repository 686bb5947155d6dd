/** Promises 1 to 3, sentence by sentence: each edge that they name, from both sides. */
public final class EdgesOfFeeding {
    private static final Checks CHECKS = new Checks("EdgesOfFeeding");
    private static final String TWENTY = "\u0001\u0002\u0003\u0004\u007f\u0080\u0081\u00ff\u00fe\u00fdabcdefghij";
    private static final int[] NO_COUNTS = {-1, 21, -20, 22, 400, 256, -256, Integer.MIN_VALUE, Integer.MAX_VALUE,
        Integer.MIN_VALUE + 20, Integer.MAX_VALUE - 400};

    public static void main(String[] args) {
        allTreesAreEmpty();
        noSessions();
        noTape();
        nothingIsChosen();
        objectsAreApart();
        bytesAreOrdered();
        bytesAreReadyOnly();
        bytesAreZeroAtFirst();
        bytesAreZeroBehindEnd();
        bytesStayBehindNone();
        endTakesTheFirst();
        endTellsHowManyTheTapeHas();
        endOfAnotherNumber();
        endOfAFullTape();
        endOfMoreThanFourHundred();
        endOfATapeThatWasTaken();
        CHECKS.end();
    }

    private static void allTreesAreEmpty() {
        CHECKS.sentence("Promise 1", "All trees are empty");
        Keep k = new Keep();
        for (int tree = Keep.SOURCE; tree <= Keep.RESULT; tree++) {
            CHECKS.due("tree " + tree, k.tree(tree), "");
            CHECKS.due("entries of " + tree, k.x().about(3 + tree), 0);
            CHECKS.due("path of " + tree, k.x().at(tree, 0, true, 0), -1);
            CHECKS.due("content of " + tree, k.x().at(tree, 0, false, 0), -1);
        }
        CHECKS.due("bytes", k.x().about(6), 0);
        CHECKS.due("differ", k.x().differ(), 0);
    }

    private static void noSessions() {
        CHECKS.sentence("Promise 1", "no sessions");
        Keep k = new Keep();
        CHECKS.due("how many", k.x().about(1), 0);
        CHECKS.due("time of the first", k.x().session(0, 0), -1);
        CHECKS.due("changes of the first", k.x().session(0, 1), -1);
        CHECKS.due("state", k.x().about(0), 0);
        CHECKS.due("increments", k.x().about(7), 0);
        CHECKS.due("prune", k.x().prune(Integer.MAX_VALUE), 0);
        CHECKS.state("restore", () -> k.x().restore(Integer.MAX_VALUE));
        CHECKS.due("the first may have time 0", k.x().begin(0), 3);
    }

    private static void noTape() {
        CHECKS.sentence("Promise 1", "no tape");
        CHECKS.due("bytes on it", new Keep().x().about(8), 0);
        CHECKS.argument("make of nothing", () -> new Keep().x().make(1, 0, 0));
        CHECKS.due("choose of nothing", new Keep().x().choose(), -1);
    }

    private static void nothingIsChosen() {
        CHECKS.sentence("Promise 1", "nothing is chosen");
        CHECKS.state("write", () -> new Keep().x().write(0));
        CHECKS.state("cut", () -> new Keep().x().cut(0));
        CHECKS.state("set", () -> new Keep().x().set(0, 0));
        CHECKS.state("remove", () -> new Keep().x().remove());
    }

    private static void objectsAreApart() {
        CHECKS.sentence("Promise 1", "All trees are empty, no sessions, no tape, nothing is chosen.");
        Keep first = new Keep();
        first.file("a", "abc");
        first.session(1);
        first.x().restore(1);
        first.tape("x");
        first.x().feed(-1, -1, -1, -1, -1);
        Keep second = new Keep();
        CHECKS.due("a second object", second.all(),
                "about 0 0 0 0 0 0 0 0 0, differ 0, sessions, tree 0 [], tree 1 [], tree 2 []");
        CHECKS.holds("nothing is chosen in it", !second.hasChosen());
        second.make("f", Keep.FILE);
        CHECKS.due("its ready bytes", second.writeZeros(0, 3) + second.content(Keep.SOURCE, 0), "3\0\0\0");
    }

    private static Keep withFile() {
        Keep k = new Keep();
        k.make("f", Keep.FILE);
        return k;
    }

    private static String written(Keep k) {
        k.x().write(0);
        return k.content(Keep.SOURCE, 0);
    }

    private static void bytesAreOrdered() {
        CHECKS.sentence("Promise 2", "Puts twenty bytes ready, those of a first, the highest of each first.");
        for (int place = 0; place < 20; place++) {
            int[] words = new int[5];
            words[place / 4] = 0xA5 << (24 - place % 4 * 8);
            Keep k = withFile();
            k.x().feed(words[0], words[1], words[2], words[3], words[4]);
            k.x().end(20);
            CHECKS.due("byte " + place, written(k), "\0".repeat(place) + "\u00a5" + "\0".repeat(19 - place));
        }
        Keep k = withFile();
        k.x().feed(-1, Integer.MIN_VALUE, Integer.MAX_VALUE, 1, 0x80808080);
        k.x().end(20);
        CHECKS.due("edges", written(k), "\u00ff\u00ff\u00ff\u00ff\u0080\0\0\0\u007f\u00ff\u00ff\u00ff\0\0\0\u0001"
                + "\u0080\u0080\u0080\u0080");
    }

    private static void bytesAreReadyOnly() {
        CHECKS.sentence("Promise 2", "Puts twenty bytes ready");
        Keep k = withFile();
        k.tape("abc");
        k.feed(Keep.bytes("x".repeat(20)), 0);
        CHECKS.due("none comes to the tape", k.x().about(8), 3);
        k.feed(Keep.bytes("yz"), 0);
        CHECKS.due("end(5)", k.x().end(5), 8);
        CHECKS.due("a second feed replaces all", written(k), "abcyz\0\0\0");
    }

    private static void bytesAreZeroAtFirst() {
        CHECKS.sentence("Promise 2", "They are 0 at first");
        Keep k = new Keep();
        CHECKS.due("end(20)", k.x().end(20), 20);
        CHECKS.argument("zeros are no path", () -> k.x().make(1, 0, 0));
        Keep none = new Keep();
        CHECKS.due("end(21)", none.x().end(21), -1);
        none.make("f", Keep.FILE);
        CHECKS.due("end(20) of it", none.x().end(20), 20);
        CHECKS.due("zeros", written(none), "\0".repeat(20));
    }

    private static void bytesAreZeroBehindEnd() {
        CHECKS.sentence("Promise 2", "and behind each end() that answers a number");
        for (int n = 0; n <= 20; n++) {
            Keep k = withFile();
            k.feed(Keep.bytes(TWENTY), 0);
            CHECKS.due("end(" + n + ")", k.x().end(n), n);
            CHECKS.due("end(20) then", k.x().end(20), n + 20);
            CHECKS.due("bytes", written(k), TWENTY.substring(0, n) + "\0".repeat(20));
        }
    }

    private static void bytesStayBehindNone() {
        CHECKS.sentence("Promise 2", "behind each end() that answers a number");
        for (int n : NO_COUNTS) {
            Keep k = withFile();
            k.feed(Keep.bytes(TWENTY), 0);
            CHECKS.due("end(" + n + ")", k.x().end(n), -1);
            CHECKS.due("end(20) then", k.x().end(20), 20);
            CHECKS.due("bytes", written(k), TWENTY);
        }
        Keep k = withFile();
        k.zeros(400);
        k.feed(Keep.bytes(TWENTY), 0);
        CHECKS.due("end(20) of a full tape", k.x().end(20), -1);
        k.x().write(0);
        k.x().cut(0);
        CHECKS.due("end(20) of an empty one", k.x().end(20), 20);
        CHECKS.due("bytes", written(k), TWENTY);
    }

    private static void endTakesTheFirst() {
        CHECKS.sentence("Promise 3", "The first n of the bytes that are ready come to the tape");
        for (int n = 0; n <= 20; n++) {
            Keep k = withFile();
            k.tape("<>");
            k.feed(Keep.bytes(TWENTY), 0);
            k.x().end(n);
            CHECKS.due("end(" + n + ")", written(k), "<>" + TWENTY.substring(0, n));
        }
    }

    private static void endTellsHowManyTheTapeHas() {
        CHECKS.sentence("Promise 3", "how many it has");
        Keep k = new Keep();
        int has = 0;
        for (int n = 0; n <= 20; n++) {
            has += n;
            CHECKS.due("end(" + n + ")", k.x().end(n), has);
            CHECKS.due("about(8)", k.x().about(8), has);
        }
    }

    private static void endOfAnotherNumber() {
        CHECKS.sentence("Promise 3", "NONE, and nothing comes, if n is not 0 .. 20");
        for (int n : NO_COUNTS) {
            Keep k = withFile();
            CHECKS.due("end(" + n + ") of no tape", k.x().end(n), -1);
            CHECKS.due("about(8)", k.x().about(8), 0);
            k.tape("abc");
            CHECKS.due("end(" + n + ")", k.x().end(n), -1);
            CHECKS.due("about(8) then", k.x().about(8), 3);
            CHECKS.due("bytes", written(k), "abc");
        }
    }

    private static void endOfAFullTape() {
        CHECKS.sentence("Promise 3", "or it would have more than 400");
        Keep k = new Keep();
        k.zeros(380);
        CHECKS.due("the last twenty", k.x().end(20), 400);
        for (int n = 1; n <= 20; n++) {
            CHECKS.due("end(" + n + ")", k.x().end(n), -1);
        }
        CHECKS.due("end(0)", k.x().end(0), 400);
        CHECKS.due("end(-1)", k.x().end(-1), -1);
        CHECKS.due("about(8)", k.x().about(8), 400);
    }

    private static void endOfMoreThanFourHundred() {
        CHECKS.sentence("Promise 3", "NONE, and nothing comes, if n is not 0 .. 20, or it would have more than 400.");
        for (int has = 381; has <= 400; has++) {
            Keep k = withFile();
            k.zeros(has);
            k.feed(Keep.bytes(TWENTY), 0);
            CHECKS.due("one too many at " + has, k.x().end(401 - has), -1);
            CHECKS.due("about(8)", k.x().about(8), has);
            CHECKS.due("just so many", k.x().end(400 - has), 400);
            k.x().write(0);
            CHECKS.due("length", k.x().entry(Keep.SOURCE, 0, 3), 400);
            for (int i = has; i < 400; i++) {
                CHECKS.due("byte " + i, k.x().at(Keep.SOURCE, 0, false, i), TWENTY.charAt(i - has));
            }
        }
    }

    private static void endOfATapeThatWasTaken() {
        CHECKS.sentence("Promise 3", "how many it has");
        Keep k = withFile();
        k.zeros(400);
        k.x().choose();
        CHECKS.due("behind choose", k.x().end(3), 3);
        CHECKS.argument("make", () -> k.x().make(1, 0, 0));
        CHECKS.due("behind make", k.x().end(2), 2);
        k.x().choose();
        k.choose("f");
        k.zeros(400);
        CHECKS.due("write", k.x().write(0), 400);
        CHECKS.due("behind write", k.x().end(1), 1);
    }
}
