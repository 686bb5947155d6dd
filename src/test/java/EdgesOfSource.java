import java.util.function.Consumer;

/** Promises 4 to 9, sentence by sentence: each edge that they name, from both sides, and each refused call. */
public final class EdgesOfSource {
    private static final Checks CHECKS = new Checks("EdgesOfSource");
    private static final int LEAST = Integer.MIN_VALUE;
    private static final int MOST = Integer.MAX_VALUE;
    private static final String MADE = "d:2,1,1= d/f:1,2,2=abc f:1,3,3=xyz l:3,4,4=to";

    public static void main(String[] args) {
        theTapeIsEmptyThen();
        makeComesAndIsChosen();
        makeOfNoKindModeOrTime();
        makeOfNoPath();
        makeUnderWay();
        makeOfWhatIsThere();
        makeWithoutItsDirectory();
        makeOfASixtyFirst();
        makeRefusedLeavesTheChosenOne();
        makeWhenBroken();
        chooseTellsTheKind();
        chooseUnderWay();
        chooseOfNone();
        writeWithinAndBeyond();
        writeAtNoPlace();
        writeUnderWay();
        writeIntoNothing();
        writeTooLong();
        writeTooMuch();
        writePlaceBeyond();
        writePlaceBelow();
        writeNumbersDoNotRunOver();
        writeRefusedEmptiesTheTape();
        cutToALength();
        cutToNoLength();
        cutRefused();
        setModeAndTime();
        setOfNone();
        setRefused();
        removeAllBelow();
        removeLeavesNothingChosen();
        removeAllOfAFullSource();
        removeRefused();
        CHECKS.end();
    }

    /** The source MADE, and nothing on the tape; f is chosen. */
    private static Keep made() {
        Keep k = new Keep();
        k.make("d", Keep.DIRECTORY, 1, 1);
        k.make("d/f", Keep.FILE, 2, 2);
        k.write(0, "abc");
        k.make("l", Keep.LINK, 4, 4);
        k.write(0, "to");
        k.make("f", Keep.FILE, 3, 3);
        k.write(0, "xyz");
        return k;
    }

    private static Keep underWay() {
        Keep k = made();
        k.x().begin(1);
        k.x().step(3);
        return k;
    }

    private static Keep broken() {
        Keep k = underWay();
        k.x().crash();
        return k;
    }

    /** The call throws, and all that looking tells is as it was, but for the tape if the call takes it. */
    private static void refused(String what, Keep k, String exception, boolean takesTape, Consumer<Keep> call) {
        String before = k.all();
        int tape = k.x().about(8);
        CHECKS.due(what, Checks.answer(() -> call.accept(k)), exception);
        int left = k.x().about(8);
        CHECKS.due("the tape behind " + what, left, takesTape ? 0 : tape);
        CHECKS.due("all behind " + what, k.all(), takesTape ? before.replaceFirst(" " + tape + ",", " 0,") : before);
    }

    private static void theTapeIsEmptyThen() {
        CHECKS.sentence("Promise 4", "An entry of the path that is on the tape (which is empty then)");
        Keep k = made();
        k.make("n".repeat(24), Keep.DIRECTORY);
        CHECKS.due("make", k.x().about(8), 0);
        CHECKS.argument("make again", () -> k.x().make(1, 0, 0));
        CHECKS.sentence("Promise 5", "The source's entry of the path that is on the tape (which is empty then)");
        CHECKS.due("choose", k.choose("f"), 1);
        CHECKS.due("the tape", k.x().about(8), 0);
        CHECKS.due("choose again", k.x().choose(), -1);
        CHECKS.sentence("Promise 6", "The bytes on the tape (which is empty then) are written into the CHOSEN entry's content, from a place on");
        k.choose("f");
        CHECKS.due("write", k.write(1, "Y"), 3);
        CHECKS.due("the tape then", k.x().about(8), 0);
        CHECKS.due("write again", k.x().write(0), 3);
        CHECKS.due("source", k.content(Keep.SOURCE, 2), "xYz");
        CHECKS.due("write a full tape", k.writeZeros(2, 400), 402);
        CHECKS.due("its last byte", k.x().at(Keep.SOURCE, 2, false, 401), 0);
    }

    private static void makeComesAndIsChosen() {
        CHECKS.sentence("Promise 4", "comes to the source, without content, and is CHOSEN: how many entries there are");
        Keep k = made();
        String[] want = {"d d/e d/f f l", "d d/e d/f f l \u00ff", "a d d/e d/f f l \u00ff"};
        String[] paths = {"d/e", "\u00ff", "a"};
        for (int i = 0; i < 3; i++) {
            CHECKS.due("make " + paths[i], k.make(paths[i], i + 1, 9, 10 + i), 5 + i);
            CHECKS.due("the tape is empty then", k.x().about(8), 0);
            CHECKS.due("about(3)", k.x().about(3), 5 + i);
            CHECKS.due("paths", k.paths(Keep.SOURCE), want[i]);
            CHECKS.due("choose tells its kind", k.choose(paths[i]), i + 1);
            CHECKS.due("without content", k.x().about(6), 8);
        }
        CHECKS.due("make d/e/x of a file", Checks.answer(() -> k.make("d/e/x", 1)), Checks.STATE);
        CHECKS.due("make \u00ff/x", k.make("\u00ff/x", Keep.FILE), 8);
        CHECKS.due("it is chosen", k.write(0, "in it"), 5);
        CHECKS.due("content", k.content(Keep.SOURCE, 7), "in it");
        CHECKS.due("path", k.path(Keep.SOURCE, 7), "\u00ff/x");
    }

    private static void makeOfNoKindModeOrTime() {
        CHECKS.sentence("Promise 4", "IllegalArgumentException: kind, mode or time is none");
        int[][] none = {{0, 0, 0}, {4, 0, 0}, {-1, 0, 0}, {LEAST, 0, 0}, {MOST, 0, 0}, {1, -1, 0}, {2, 4096, 0},
            {3, LEAST, 0}, {1, MOST, 0}, {2, 0, -1}, {3, 0, LEAST}, {0, -1, -1}};
        for (int[] one : none) {
            for (String path : new String[] {"new", "f", "e/f", "f/f", ""}) {
                Keep k = made().tape(path);
                refused("make of " + path, k, Checks.ARGUMENT, true, o -> o.x().make(one[0], one[1], one[2]));
            }
        }
    }

    private static void makeOfNoPath() {
        CHECKS.sentence("Promise 4", "or that is no path");
        for (String path : new String[] {"", "/", "d/", "/d", "d//e", ".", "..", "d/.", "d/..", "f/.", "e/..", "d/\0",
            "a\0", "n".repeat(25), "d/" + "n".repeat(25), "f/f/f/f/f/f/f", "d/d/d/d/d/d/d", "n".repeat(60)}) {
            Keep k = made().tape(path);
            refused("make of " + path, k, Checks.ARGUMENT, true, o -> o.x().make(1, 0, 0));
        }
    }

    private static void makeUnderWay() {
        CHECKS.sentence("Promise 4", "a session is UNDER WAY (this first, the tape stays)");
        for (String path : new String[] {"new", "f", "e/f", "d/", ""}) {
            Keep k = underWay().tape(path);
            refused("make of " + path, k, Checks.STATE, false, o -> o.x().make(1, 0, 0));
            refused("make(0, ..) of " + path, k, Checks.STATE, false, o -> o.x().make(0, 4096, -1));
        }
        Keep k = underWay().tape("new");
        CHECKS.state("make", () -> k.x().make(1, 0, 0));
        k.x().step(200);
        CHECKS.due("the same tape at rest", k.x().make(1, 0, 0), 5);
        CHECKS.due("path", k.path(Keep.SOURCE, 4), "new");
    }

    private static void makeOfWhatIsThere() {
        CHECKS.sentence("Promise 4", "it is there");
        for (String path : new String[] {"d", "d/f", "f", "l"}) {
            for (int kind = 1; kind <= 3; kind++) {
                int one = kind;
                refused("make of " + path, made().tape(path), Checks.STATE, true, o -> o.x().make(one, 4095, MOST));
            }
        }
    }

    private static void makeWithoutItsDirectory() {
        CHECKS.sentence("Promise 4", "its directory is not (another KIND of entry is none)");
        for (String path : new String[] {"e/f", "d/e/f", "D/f", "dd/f", "f/a", "l/a", "d/f/a", "l/to/a", "a/b/c/d/e/f"}) {
            refused("make of " + path, made().tape(path), Checks.STATE, true, o -> o.x().make(1, 0, 0));
        }
        Keep k = made();
        k.session(1);
        k.remove("d");
        CHECKS.state("one of the mirror alone is none", () -> k.make("d/g", Keep.FILE));
    }

    private static Keep full() {
        Keep k = new Keep();
        k.make("d", Keep.DIRECTORY);
        for (int i = 1; i < 60; i++) {
            k.make("d/" + i, Keep.FILE);
        }
        return k;
    }

    private static void makeOfASixtyFirst() {
        CHECKS.sentence("Promise 4", "there are 60");
        Keep k = full();
        k.write(0, "abc");
        for (String path : new String[] {"a", "d/a", "d/60", "d", "d/1", "e/f"}) {
            CHECKS.state("make of " + path, () -> k.make(path, Keep.FILE));
            CHECKS.due("the tape is empty then", k.x().about(8), 0);
        }
        CHECKS.argument("make of no path", () -> k.make("d/", Keep.FILE));
        CHECKS.argument("make of no kind", () -> k.make("a", 0));
        CHECKS.due("entries", k.x().about(3), 60);
        CHECKS.due("what was CHOSEN is still", k.write(3, "d"), 4);
        CHECKS.due("remove", k.remove("d/1"), 1);
        CHECKS.due("there is room for one", k.make("a", Keep.FILE), 60);
    }

    private static void makeRefusedLeavesTheChosenOne() {
        CHECKS.sentence("Promise 4", "(But for UNDER WAY the tape is empty then; what was CHOSEN is still.)");
        for (String path : new String[] {"", "d", "d/f", "f", "a/b", "f/b", "d/"}) {
            Keep k = made();
            k.choose("d/f");
            CHECKS.holds("make of " + path, Checks.answer(() -> k.make(path, Keep.FILE)).startsWith("throws."));
            CHECKS.due("write behind make of " + path, k.write(3, "!"), 4);
            CHECKS.due("into d/f", k.content(Keep.SOURCE, 1), "abc!");
            Keep none = made();
            none.choose("none");
            CHECKS.holds("make of " + path, Checks.answer(() -> none.make(path, Keep.FILE)).startsWith("throws."));
            CHECKS.holds("nothing is chosen still", !none.hasChosen());
        }
        Keep k = underWay();
        k.choose("d/f");
        CHECKS.state("make", () -> k.make("new", Keep.FILE));
        k.x().crash();
        k.x().choose();
        k.choose("d/f");
        CHECKS.due("write", k.write(3, "!"), 4);
    }

    private static void makeWhenBroken() {
        CHECKS.sentence("Promise 4", "IllegalStateException: a session is UNDER WAY");
        Keep k = broken();
        String mirror = k.tree(Keep.MIRROR);
        CHECKS.due("make", k.make("new", Keep.FILE), 5);
        CHECKS.due("write", k.write(0, "x"), 1);
        k.x().cut(0);
        k.x().set(7, 8);
        CHECKS.due("source", k.tree(Keep.SOURCE), MADE + " new:1,7,8=");
        CHECKS.due("remove", k.x().remove(), 1);
        CHECKS.due("state", k.x().about(0), 2);
        CHECKS.due("done", k.x().about(2), 3);
        CHECKS.due("mirror", k.tree(Keep.MIRROR), mirror);
    }

    private static void chooseTellsTheKind() {
        CHECKS.sentence("Promise 5", "is CHOSEN (also when a session is UNDER WAY): its KIND");
        String[] paths = {"d", "d/f", "f", "l"};
        int[] kinds = {2, 1, 1, 3};
        for (int i = 0; i < 4; i++) {
            Keep k = made();
            CHECKS.due("choose " + paths[i], k.choose(paths[i]), kinds[i]);
            CHECKS.due("(which is empty then)", k.x().about(8), 0);
            k.x().set(77, 78);
            for (int j = 0; j < 4; j++) {
                CHECKS.due("mode of " + paths[j], k.x().entry(Keep.SOURCE, j, 1) == 77 ? 1 : 0, i == j ? 1 : 0);
            }
        }
    }

    private static void chooseUnderWay() {
        CHECKS.sentence("Promise 5", "(also when a session is UNDER WAY)");
        Keep k = underWay();
        CHECKS.due("choose d/f", k.choose("d/f"), 1);
        CHECKS.due("the tape", k.x().about(8), 0);
        k.x().crash();
        CHECKS.due("write", k.write(3, "!"), 4);
        CHECKS.due("into d/f", k.content(Keep.SOURCE, 1), "abc!");
        Keep none = underWay();
        CHECKS.due("choose none", none.choose("none"), -1);
        CHECKS.due("the tape of none", none.x().about(8), 0);
        none.x().step(200);
        CHECKS.holds("nothing is chosen then", !none.hasChosen());
        Keep stays = underWay();
        stays.x().step(200);
        CHECKS.due("what was chosen ahead of it", stays.write(3, "!"), 4);
    }

    private static void chooseOfNone() {
        CHECKS.sentence("Promise 5", "NONE, and nothing is chosen then, if there is none");
        for (String path : new String[] {"", "/", "d/", "/d", "d/f/", "d//f", "D", "d/", "d/f\0", "\0d", "f/f", "d/f/f",
            "ff", "d/ff", "to", ".", "n".repeat(25), "n".repeat(400)}) {
            Keep k = made();
            CHECKS.due("choose " + path, k.choose(path), -1);
            CHECKS.due("the tape behind " + path, k.x().about(8), 0);
            CHECKS.holds("nothing is chosen behind " + path, !k.hasChosen());
            CHECKS.due("source", k.tree(Keep.SOURCE), MADE);
        }
        Keep k = made();
        k.session(1);
        k.remove("f");
        CHECKS.due("one of the mirror alone", k.choose("f"), -1);
        CHECKS.due("of an empty source", new Keep().choose("f"), -1);
    }

    private static void writeWithinAndBeyond() {
        CHECKS.sentence("Promise 6", "it is as long as it was, or longer if that is necessary: its length");
        String[] want = {"!!c", "a!!", "ab!!", "abc!!"};
        for (int at = 0; at <= 3; at++) {
            Keep k = made();
            k.choose("d/f");
            CHECKS.due("write(" + at + ")", k.write(at, "!!"), want[at].length());
            CHECKS.due("content", k.content(Keep.SOURCE, 1), want[at]);
            CHECKS.due("(which is empty then)", k.x().about(8), 0);
            CHECKS.due("all bytes", k.x().about(6), 5 + want[at].length());
            CHECKS.due("write nothing", k.x().write(at), want[at].length());
            CHECKS.due("as it was", k.content(Keep.SOURCE, 1), want[at]);
        }
        Keep k = made();
        k.choose("l");
        CHECKS.due("a link, too", k.write(2, "o"), 3);
        CHECKS.due("its content", k.content(Keep.SOURCE, 3), "too");
        CHECKS.due("all else as it was", k.tree(Keep.SOURCE), MADE + "o");
    }

    private static void writeAtNoPlace() {
        CHECKS.sentence("Promise 6", "IllegalArgumentException: at is not 0 .. its length");
        for (int at : new int[] {-1, 4, 5, 100, 1499, -2, -400, LEAST}) {
            refused("write(" + at + ")", made().tape("!"), Checks.ARGUMENT, true, o -> o.x().write(at));
            refused("write(" + at + ") of nothing", made(), Checks.ARGUMENT, true, o -> o.x().write(at));
        }
        Keep k = new Keep();
        k.make("f", Keep.FILE);
        CHECKS.argument("write(1) of an empty file", () -> k.x().write(1));
        CHECKS.argument("write(-1) of an empty file", () -> k.x().write(-1));
        CHECKS.due("write(0) of an empty file", k.x().write(0), 0);
    }

    private static void writeUnderWay() {
        CHECKS.sentence("Promise 6", "a session is UNDER WAY (the tape stays)");
        for (int at : new int[] {0, 3, 4, -1, 1500, MOST, LEAST}) {
            refused("write(" + at + ")", underWay().tape("!"), Checks.STATE, false, o -> o.x().write(at));
            Keep none = underWay();
            none.choose("");
            refused("write(" + at + ")", none.tape("!"), Checks.STATE, false, o -> o.x().write(at));
            Keep directory = underWay();
            directory.choose("d");
            refused("write(" + at + ")", directory.tape("!"), Checks.STATE, false, o -> o.x().write(at));
        }
        Keep k = underWay().tape("!");
        k.x().step(200);
        CHECKS.due("the same tape at rest", k.x().write(3), 4);
        CHECKS.due("content", k.content(Keep.SOURCE, 2), "xyz!");
    }

    private static void writeIntoNothing() {
        CHECKS.sentence("Promise 6", "nothing is chosen, or a DIRECTORY is");
        for (String path : new String[] {"none", "d"}) {
            for (int at : new int[] {0, 1, -1, MOST, LEAST}) {
                Keep k = made();
                k.choose(path);
                refused("write(" + at + ") of " + path, k.tape("!"), Checks.STATE, true, o -> o.x().write(at));
                refused("write(" + at + ") of nothing", k, Checks.STATE, true, o -> o.x().write(at));
            }
        }
        Keep gone = made();
        gone.x().remove();
        refused("write of what was removed", gone.tape("!"), Checks.STATE, true, o -> o.x().write(0));
    }

    private static void writeTooLong() {
        CHECKS.sentence("Promise 6", "it would be too long");
        Keep k = new Keep();
        k.make("f", Keep.FILE);
        k.fill(1490);
        CHECKS.state("1501", () -> k.write(1490, "x".repeat(11)));
        CHECKS.state("1501 from further ahead", () -> k.write(1481, "x".repeat(20)));
        CHECKS.state("1501 from 1101", () -> k.writeZeros(1101, 400));
        CHECKS.due("1500 from 1100", k.writeZeros(1100, 400), 1500);
        k.x().cut(1490);
        CHECKS.due("1500", k.write(1490, "x".repeat(10)), 1500);
        CHECKS.due("last byte", k.x().at(Keep.SOURCE, 0, false, 1499), 'x');
        k.make("l", Keep.LINK);
        k.write(0, "y".repeat(95));
        CHECKS.state("101", () -> k.write(95, "x".repeat(6)));
        CHECKS.state("101 from 81", () -> k.write(81, "x".repeat(20)));
        CHECKS.due("100 from 80", k.write(80, "z".repeat(20)), 100);
        CHECKS.state("101 from 0", () -> k.writeZeros(0, 101));
        CHECKS.due("100 from 0", k.writeZeros(0, 100), 100);
    }

    /** Files of 1500, 1500, 900 bytes, and g of 50, which is chosen. */
    private static Keep nearlyFull() {
        Keep k = new Keep();
        String[] names = {"a", "b", "c", "g"};
        int[] sizes = {1500, 1500, 900, 50};
        for (int i = 0; i < 4; i++) {
            k.make(names[i], Keep.FILE);
            k.fill(sizes[i]);
        }
        return k;
    }

    private static void writeTooMuch() {
        CHECKS.sentence("Promise 6", "or all would be");
        Keep k = nearlyFull();
        CHECKS.due("all", k.x().about(6), 3950);
        CHECKS.state("4001", () -> k.writeZeros(50, 51));
        CHECKS.due("the tape is empty then", k.x().about(8), 0);
        CHECKS.state("4001 from 0", () -> k.writeZeros(0, 101));
        CHECKS.due("4000 from 0", k.writeZeros(0, 100), 100);
        CHECKS.due("all then", k.x().about(6), 4000);
        CHECKS.state("one more", () -> k.writeZeros(100, 1));
        CHECKS.due("none more", k.x().write(100), 100);
        k.make("l", Keep.LINK);
        CHECKS.state("of a link", () -> k.writeZeros(0, 1));
        CHECKS.due("still", k.x().about(6), 4000);
    }

    private static void writePlaceBeyond() {
        CHECKS.sentence("Promise 6", "a place beyond its length, or below 0, counts so, too: the place and as many bytes behind it");
        for (int bytes : new int[] {0, 1, 20}) {
            refused("1500", made().zeros(bytes), Checks.ARGUMENT, true, o -> o.x().write(1500 - bytes));
            refused("1501", made().zeros(bytes), Checks.STATE, true, o -> o.x().write(1501 - bytes));
            Keep link = made();
            link.choose("l");
            refused("100", link.zeros(bytes), Checks.ARGUMENT, true, o -> o.x().write(100 - bytes));
            refused("101", link.zeros(bytes), Checks.STATE, true, o -> o.x().write(101 - bytes));
            Keep k = nearlyFull();
            CHECKS.argument("4000 with " + bytes, () -> k.zeros(bytes).x().write(100 - bytes));
            CHECKS.state("4001 with " + bytes, () -> k.zeros(bytes).x().write(101 - bytes));
            CHECKS.due("all", k.x().about(6), 3950);
        }
        refused("most", made(), Checks.STATE, true, o -> o.x().write(MOST));
    }

    private static void writePlaceBelow() {
        CHECKS.sentence("Promise 6", "or below 0, counts so, too");
        Keep k = made();
        k.choose("l");
        refused("-1 and 101 bytes", k.zeros(101), Checks.ARGUMENT, true, o -> o.x().write(-1));
        refused("-1 and 102 bytes", k.zeros(102), Checks.STATE, true, o -> o.x().write(-1));
        refused("-300 and 400 bytes", k.zeros(400), Checks.ARGUMENT, true, o -> o.x().write(-300));
        Keep again = made();
        again.choose("l");
        refused("-299 and 400 bytes", again.zeros(400), Checks.STATE, true, o -> o.x().write(-299));
        refused("-400 and 400 bytes", again.zeros(400), Checks.ARGUMENT, true, o -> o.x().write(-400));
        Keep all = nearlyFull();
        CHECKS.argument("-300 and 400 bytes of all", () -> all.zeros(400).x().write(-300));
        CHECKS.state("-299 and 400 bytes of all", () -> all.zeros(400).x().write(-299));
    }

    private static void writeNumbersDoNotRunOver() {
        CHECKS.sentence("Promise 6", "numbers don't run over");
        for (int at : new int[] {MOST, MOST - 1, MOST - 19, MOST - 20, MOST - 399, MOST - 4000, 1 << 30}) {
            for (int bytes : new int[] {0, 1, 20, 400}) {
                Keep k = made();
                CHECKS.state("write(" + at + ") of " + bytes, () -> k.zeros(bytes).x().write(at));
                CHECKS.due("source", k.tree(Keep.SOURCE), MADE);
            }
        }
        for (int at : new int[] {LEAST, LEAST + 1, LEAST + 400, -(1 << 30)}) {
            for (int bytes : new int[] {0, 1, 20, 400}) {
                Keep k = made();
                CHECKS.argument("write(" + at + ") of " + bytes, () -> k.zeros(bytes).x().write(at));
                CHECKS.due("source", k.tree(Keep.SOURCE), MADE);
            }
        }
    }

    private static void writeRefusedEmptiesTheTape() {
        CHECKS.sentence("Promise 6", "(These ahead of the first; but for UNDER WAY the tape is empty then.)");
        Keep k = made();
        for (int at : new int[] {-1, 4, 1500, MOST, LEAST}) {
            CHECKS.holds("write(" + at + ")", Checks.answer(() -> k.write(at, "!")).startsWith("throws."));
            CHECKS.due("the tape", k.x().about(8), 0);
        }
        CHECKS.due("f is chosen still", k.write(3, "!"), 4);
        CHECKS.due("content", k.content(Keep.SOURCE, 2), "xyz!");
    }

    private static void cutToALength() {
        CHECKS.sentence("Promise 7", "The CHOSEN entry's content is cut to a length.");
        for (int length = 0; length <= 3; length++) {
            Keep k = made().tape("tape");
            k.x().cut(length);
            CHECKS.due("cut(" + length + ")", k.content(Keep.SOURCE, 2), "xyz".substring(0, length));
            CHECKS.due("bytes", k.x().about(6), 5 + length);
            CHECKS.due("the tape", k.x().about(8), 4);
            k.x().cut(length);
            CHECKS.due("again", k.tree(Keep.SOURCE), MADE.replace("xyz", "xyz".substring(0, length)));
        }
        Keep k = made();
        k.choose("l");
        k.x().cut(1);
        k.writeZeros(1, 2);
        CHECKS.due("what was cut does not come again", k.content(Keep.SOURCE, 3), "t\0\0");
    }

    private static void cutToNoLength() {
        CHECKS.sentence("Promise 7", "IllegalArgumentException: not 0 .. its length.");
        for (int length : new int[] {-1, 4, 5, 1500, LEAST, MOST}) {
            refused("cut(" + length + ")", made().tape("t"), Checks.ARGUMENT, false, o -> o.x().cut(length));
        }
        Keep k = new Keep();
        k.make("f", Keep.FILE);
        CHECKS.argument("cut(1) of no content", () -> k.x().cut(1));
        CHECKS.due("cut(0) of no content", Checks.answer(() -> k.x().cut(0)), "done");
    }

    private static void cutRefused() {
        CHECKS.sentence("Promise 7", "a session is UNDER WAY, nothing is chosen, or a DIRECTORY is. (This first.)");
        for (int length : new int[] {0, 3, 4, -1, LEAST, MOST}) {
            refused("cut under way", underWay().tape("t"), Checks.STATE, false, o -> o.x().cut(length));
            for (String path : new String[] {"none", "d"}) {
                Keep k = made();
                k.choose(path);
                refused("cut of " + path, k.tape("t"), Checks.STATE, false, o -> o.x().cut(length));
            }
        }
        Keep k = broken();
        k.x().cut(1);
        CHECKS.due("when BROKEN", k.content(Keep.SOURCE, 2), "x");
    }

    private static void setModeAndTime() {
        CHECKS.sentence("Promise 8", "The CHOSEN entry's MODE and TIME.");
        for (int[] one : new int[][] {{0, 0}, {4095, MOST}, {1, 2}}) {
            String[] paths = {"d", "f", "l"};
            String[] was = {"d:2,1,1", "f:1,3,3", "l:3,4,4"};
            for (int i = 0; i < 3; i++) {
                Keep k = made();
                k.choose(paths[i]);
                k.tape("t").x().set(one[0], one[1]);
                String now = was[i].substring(0, 4) + one[0] + "," + one[1];
                CHECKS.due("set", k.tree(Keep.SOURCE), MADE.replace(was[i], now));
                CHECKS.due("the tape", k.x().about(8), 1);
            }
        }
    }

    private static void setOfNone() {
        CHECKS.sentence("Promise 8", "IllegalArgumentException: one of them is none.");
        for (int[] one : new int[][] {{-1, 0}, {4096, 0}, {0, -1}, {-1, -1}, {LEAST, 0}, {MOST, 0}, {0, LEAST}, {4096, -1}}) {
            for (String path : new String[] {"d", "f", "l"}) {
                Keep k = made();
                k.choose(path);
                refused("set of " + path, k.tape("t"), Checks.ARGUMENT, false, o -> o.x().set(one[0], one[1]));
            }
        }
    }

    private static void setRefused() {
        CHECKS.sentence("Promise 8", "a session is UNDER WAY, or nothing is chosen. (This first.)");
        for (int[] one : new int[][] {{0, 0}, {-1, 0}, {4096, 0}, {0, -1}, {LEAST, LEAST}}) {
            refused("set under way", underWay().tape("t"), Checks.STATE, false, o -> o.x().set(one[0], one[1]));
            Keep k = made();
            k.choose("none");
            refused("set of nothing", k.tape("t"), Checks.STATE, false, o -> o.x().set(one[0], one[1]));
            k.x().begin(1);
            refused("set of nothing under way", k, Checks.STATE, false, o -> o.x().set(one[0], one[1]));
        }
        Keep k = broken();
        k.x().set(8, 9);
        CHECKS.due("when BROKEN", k.tree(Keep.SOURCE), MADE.replace("f:1,3,3", "f:1,8,9"));
    }

    private static void removeAllBelow() {
        CHECKS.sentence("Promise 9",
                "The CHOSEN entry goes from the source, and all whose paths begin with its path and /: how many went");
        String[] all = {"a", "a/d", "d", "d/d", "d/d/d", "d\u0001", "d-", "d-/d", "d.", "d0", "dd", "dd/d"};
        String[] gone = {"d", "d/d", "d/d/d", "d-", "dd/d", "a", "d\u0001"};
        int[] counts = {3, 2, 1, 2, 1, 2, 1};
        for (int i = 0; i < gone.length; i++) {
            Keep k = new Keep();
            StringBuilder left = new StringBuilder();
            for (String path : all) {
                k.make(path, Keep.DIRECTORY);
                left.append(path.equals(gone[i]) || path.startsWith(gone[i] + "/") ? "" : " " + path);
            }
            k.choose(gone[i]);
            k.tape("t");
            CHECKS.due("remove " + gone[i], k.x().remove(), counts[i]);
            CHECKS.due("entries", k.x().about(3), all.length - counts[i]);
            CHECKS.due("left", " " + k.paths(Keep.SOURCE), left.toString());
            CHECKS.due("the tape", k.x().about(8), 1);
            CHECKS.holds("(nothing is chosen then)", !k.hasChosen());
        }
        Keep k = made();
        CHECKS.due("a file", k.x().remove(), 1);
        CHECKS.due("a link", k.remove("l"), 1);
        CHECKS.due("left", k.tree(Keep.SOURCE), "d:2,1,1= d/f:1,2,2=abc");
        CHECKS.due("the last ones", k.remove("d"), 2);
        CHECKS.due("none left", k.x().about(3) + k.x().about(6), 0);
    }

    private static void removeLeavesNothingChosen() {
        CHECKS.sentence("Promise 9", "(nothing is chosen then)");
        for (String path : new String[] {"d", "d/f", "f", "l"}) {
            Keep k = made();
            k.remove(path);
            CHECKS.state("write behind " + path, () -> k.write(0, "x"));
            CHECKS.state("cut behind " + path, () -> k.x().cut(0));
            CHECKS.state("set behind " + path, () -> k.x().set(0, 0));
            CHECKS.state("remove behind " + path, () -> k.x().remove());
        }
    }

    private static void removeAllOfAFullSource() {
        CHECKS.sentence("Promise 9", "how many went");
        Keep k = full();
        CHECKS.due("all", k.remove("d"), 60);
        CHECKS.due("none left", k.x().about(3), 0);
        CHECKS.due("none to choose", k.choose("d/59"), -1);
        CHECKS.due("a first one", k.make("d", Keep.FILE), 1);
    }

    private static void removeRefused() {
        CHECKS.sentence("Promise 9", "IllegalStateException: a session is UNDER WAY, or nothing is chosen.");
        refused("under way", underWay().tape("t"), Checks.STATE, false, o -> o.x().remove());
        Keep none = made();
        none.choose("none");
        refused("nothing", none.tape("t"), Checks.STATE, false, o -> o.x().remove());
        Keep twice = made();
        twice.x().remove();
        refused("twice", twice.tape("t"), Checks.STATE, false, o -> o.x().remove());
        Keep still = underWay();
        CHECKS.state("under way", () -> still.x().remove());
        still.x().step(200);
        CHECKS.due("it is chosen still", still.x().remove(), 1);
        CHECKS.due("f went", still.paths(Keep.SOURCE), "d d/f l");
        Keep broken = broken();
        CHECKS.due("when BROKEN", broken.x().remove(), 1);
    }
}
