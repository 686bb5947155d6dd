/** Promises 1 to 3: a new object, feed, end. */
public final class FeedingTests {
    private static final Checks CHECKS = new Checks("FeedingTests");

    public static void main(String[] args) {
        aNewObject();
        aNewObjectHasNothingChosen();
        feedOrdersItsBytes();
        feedReplacesWhatWasReady();
        endTakesTheFirstBytes();
        endRefusesOtherNumbers();
        endRefusesAFullTape();
        readyBytesAreGoneBehindEnd();
        CHECKS.end();
    }

    private static void aNewObject() {
        Keep k = new Keep();
        for (int what = 0; what <= 8; what++) {
            CHECKS.due("new about(" + what + ")", k.x().about(what), 0);
        }
        for (int tree = 0; tree <= 2; tree++) {
            CHECKS.due("new entry(" + tree + ", 0, 0)", k.x().entry(tree, 0, 0), -1);
            CHECKS.due("new at(" + tree + ", 0, true, 0)", k.x().at(tree, 0, true, 0), -1);
        }
        CHECKS.due("new session(0, 0)", k.x().session(0, 0), -1);
        CHECKS.due("new differ()", k.x().differ(), 0);
        CHECKS.due("NONE", MirrorKeep.NONE, -1);
    }

    private static void aNewObjectHasNothingChosen() {
        Keep k = new Keep();
        CHECKS.state("new write", () -> k.x().write(0));
        CHECKS.state("new cut", () -> k.x().cut(0));
        CHECKS.state("new set", () -> k.x().set(0, 0));
        CHECKS.state("new remove", () -> k.x().remove());
        CHECKS.state("new restore", () -> k.x().restore(Integer.MAX_VALUE));
        CHECKS.state("new step", () -> k.x().step(1));
        CHECKS.state("new crash", () -> k.x().crash());
        CHECKS.state("new regress", () -> k.x().regress(1));
    }

    private static Keep withFile() {
        Keep k = new Keep();
        k.make("f", Keep.FILE);
        return k;
    }

    private static void feedOrdersItsBytes() {
        Keep k = withFile();
        k.x().feed(0x01020304, 0x05060708, 0x090A0B0C, 0x0D0E0F10, 0xFFFE8081);
        CHECKS.due("feed leaves the tape", k.x().about(8), 0);
        CHECKS.due("end(20)", k.x().end(20), 20);
        CHECKS.due("write", k.x().write(0), 20);
        int[] want = {1, 2, 3, 4, 5, 6, 7, 8, 9, 10, 11, 12, 13, 14, 15, 16, 255, 254, 128, 129};
        for (int i = 0; i < 20; i++) {
            CHECKS.due("byte " + i, k.x().at(Keep.SOURCE, 0, false, i), want[i]);
        }
    }

    private static void feedReplacesWhatWasReady() {
        Keep k = withFile();
        k.feed(Keep.bytes("abcdefghijklmnopqrst"), 0);
        k.feed(Keep.bytes("XY"), 0);
        CHECKS.due("end(4)", k.x().end(4), 4);
        k.x().write(0);
        CHECKS.due("the last feed counts", k.content(Keep.SOURCE, 0), "XY\0\0");
    }

    private static void endTakesTheFirstBytes() {
        Keep k = withFile();
        k.feed(Keep.bytes("hello"), 0);
        CHECKS.due("end(3)", k.x().end(3), 3);
        k.feed(Keep.bytes("world"), 0);
        CHECKS.due("end(2)", k.x().end(2), 5);
        CHECKS.due("about(8)", k.x().about(8), 5);
        k.x().write(0);
        CHECKS.due("bytes come behind each other", k.content(Keep.SOURCE, 0), "helwo");
        CHECKS.due("the tape is empty", k.x().about(8), 0);
    }

    private static void endRefusesOtherNumbers() {
        Keep k = withFile();
        k.feed(Keep.bytes("keep"), 0);
        for (int n : new int[] {-1, 21, Integer.MIN_VALUE, Integer.MAX_VALUE}) {
            CHECKS.due("end(" + n + ")", k.x().end(n), -1);
            CHECKS.due("nothing comes by end(" + n + ")", k.x().about(8), 0);
        }
        CHECKS.due("end(4)", k.x().end(4), 4);
        k.x().write(0);
        CHECKS.due("NONE leaves what is ready", k.content(Keep.SOURCE, 0), "keep");
    }

    private static void endRefusesAFullTape() {
        Keep k = withFile();
        k.tape("x".repeat(395));
        k.feed(Keep.bytes("123456"), 0);
        CHECKS.due("end(6) at 395", k.x().end(6), -1);
        CHECKS.due("about(8)", k.x().about(8), 395);
        CHECKS.due("end(5) at 395", k.x().end(5), 400);
        CHECKS.due("end(1) at 400", k.x().end(1), -1);
        CHECKS.due("end(0) at 400", k.x().end(0), 400);
        CHECKS.due("write", k.x().write(0), 400);
        CHECKS.due("byte 394", k.x().at(Keep.SOURCE, 0, false, 394), 'x');
        CHECKS.due("byte 395", k.x().at(Keep.SOURCE, 0, false, 395), '1');
        CHECKS.due("byte 399", k.x().at(Keep.SOURCE, 0, false, 399), '5');
    }

    private static void readyBytesAreGoneBehindEnd() {
        Keep k = withFile();
        CHECKS.due("end(2) of a new object", k.x().end(2), 2);
        k.feed(Keep.bytes("ab"), 0);
        CHECKS.due("end(2)", k.x().end(2), 4);
        CHECKS.due("end(1) again", k.x().end(1), 5);
        k.feed(Keep.bytes("cd"), 0);
        CHECKS.due("end(0)", k.x().end(0), 5);
        CHECKS.due("end(1) behind end(0)", k.x().end(1), 6);
        k.x().write(0);
        CHECKS.due("ready bytes are 0", k.content(Keep.SOURCE, 0), "\0\0ab\0\0");
        CHECKS.due("end(20) of what is 0", k.x().end(20), 20);
        CHECKS.due("write(6)", k.x().write(6), 26);
        CHECKS.due("all twenty are", k.content(Keep.SOURCE, 0), "\0\0ab" + "\0".repeat(22));
    }
}
