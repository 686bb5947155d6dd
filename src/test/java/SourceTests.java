/** Promises 4 to 9: make, choose, write, cut, set, remove. */
public final class SourceTests {
    private static final Checks CHECKS = new Checks("SourceTests");
    private static final String LONGEST = "n".repeat(24);

    public static void main(String[] args) {
        makeCountsAndChooses();
        makeTakesPathsOnly();
        makeTakesItsNumbersOnly();
        makeWantsADirectoryAndANewPath();
        makeIsRefusedUnderWay();
        makeFullSource();
        orderOfPaths();
        chooseFindsWholePaths();
        writeOverAndBehind();
        writeRefusals();
        writeLimitOfFiles();
        writeLimitOfLinks();
        writeLimitOfAll();
        writeUnderWay();
        cutShortens();
        cutRefusals();
        setSets();
        removeTakesWhatIsBelow();
        removeRefusals();
        CHECKS.end();
    }

    private static void makeCountsAndChooses() {
        Keep k = new Keep();
        CHECKS.due("make d", k.make("d", Keep.DIRECTORY, 493, 5), 1);
        CHECKS.due("make d/f", k.make("d/f", Keep.FILE, 4095, Integer.MAX_VALUE), 2);
        CHECKS.due("the tape is empty", k.x().about(8), 0);
        CHECKS.due("write into the new one", k.write(0, "hi"), 2);
        CHECKS.due("make l", k.make("l", Keep.LINK, 0, 0), 3);
        CHECKS.due("source", k.tree(Keep.SOURCE), "d:2,493,5= d/f:1,4095,2147483647=hi l:3,0,0=");
        CHECKS.due("about(3)", k.x().about(3), 3);
        CHECKS.due("about(6)", k.x().about(6), 2);
    }

    private static void refusedPath(String path) {
        Keep k = new Keep();
        k.make("c", Keep.FILE);
        CHECKS.argument("make " + path.length() + " bytes: " + path, () -> k.make(path, Keep.FILE));
        CHECKS.due("the tape is empty behind " + path, k.x().about(8), 0);
        CHECKS.due("entries behind " + path, k.x().about(3), 1);
        CHECKS.due("chosen is still c behind " + path, k.write(0, "x"), 1);
    }

    private static void makeTakesPathsOnly() {
        String[] none = {"", "/", "/a", "a/", "a//b", ".", "..", "./a", "../a", "a/.", "a/..", "a\0", "\0", "a\0b",
            LONGEST + "n", "c/" + LONGEST + "n", "a/b/c/d/e/f/g", "a/b/c/d/e/f/", "c/", "c//"};
        for (String path : none) {
            refusedPath(path);
        }
        Keep k = new Keep();
        String[] some = {"...", ".a", "a.", "..a", " ", "\n", "\u0080", "\u00ff", LONGEST, "\\", "*"};
        for (int i = 0; i < some.length; i++) {
            CHECKS.due("make " + some[i], k.make(some[i], Keep.FILE), i + 1);
        }
        Keep deep = new Keep();
        String path = LONGEST;
        for (int names = 1; names <= 6; names++) {
            CHECKS.due("names: " + names, deep.make(path, Keep.DIRECTORY), names);
            path = path + "/" + LONGEST;
        }
        String seventh = path;
        CHECKS.argument("names: 7", () -> deep.make(seventh, Keep.DIRECTORY));
        CHECKS.due("149 bytes", deep.x().entry(Keep.SOURCE, 5, 4), 149);
    }

    private static void refusedNumbers(int kind, int mode, int time) {
        Keep k = new Keep();
        k.make("c", Keep.FILE);
        String call = "make(" + kind + ", " + mode + ", " + time + ")";
        CHECKS.argument(call, () -> k.make("a", kind, mode, time));
        CHECKS.argument(call + " of a path that is there", () -> k.make("c", kind, mode, time));
        CHECKS.argument(call + " without a directory", () -> k.make("d/c", kind, mode, time));
        CHECKS.due("the tape is empty behind " + call, k.x().about(8), 0);
        CHECKS.due("entries behind " + call, k.x().about(3), 1);
        CHECKS.due("chosen is still c behind " + call, k.write(0, "x"), 1);
    }

    private static void makeTakesItsNumbersOnly() {
        for (int kind : new int[] {0, 4, -1, Integer.MIN_VALUE, Integer.MAX_VALUE}) {
            refusedNumbers(kind, 0, 0);
        }
        for (int mode : new int[] {-1, 4096, Integer.MIN_VALUE, Integer.MAX_VALUE}) {
            refusedNumbers(Keep.FILE, mode, 0);
        }
        refusedNumbers(Keep.FILE, 0, -1);
        refusedNumbers(Keep.FILE, 0, Integer.MIN_VALUE);
    }

    private static void makeWantsADirectoryAndANewPath() {
        Keep k = new Keep();
        k.make("f", Keep.FILE);
        k.make("l", Keep.LINK);
        k.make("d", Keep.DIRECTORY);
        k.make("d/x", Keep.FILE);
        for (String path : new String[] {"f", "l", "d", "d/x", "f/a", "l/a", "d/x/a", "e/a", "d/e/a", "x/x"}) {
            CHECKS.state("make " + path, () -> k.make(path, Keep.DIRECTORY));
            CHECKS.due("the tape is empty behind " + path, k.x().about(8), 0);
        }
        CHECKS.due("entries", k.x().about(3), 4);
        CHECKS.due("chosen is still d/x", k.write(0, "abc"), 3);
        CHECKS.due("source", k.tree(Keep.SOURCE), "d:2,0,0= d/x:1,0,0=abc f:1,0,0= l:3,0,0=");
        CHECKS.due("make d/e", k.make("d/e", Keep.DIRECTORY), 5);
        CHECKS.due("make d/e/a", k.make("d/e/a", Keep.FILE), 6);
    }

    private static void makeIsRefusedUnderWay() {
        Keep k = new Keep();
        k.x().begin(1);
        k.tape("a");
        CHECKS.state("make under way", () -> k.x().make(1, 0, 0));
        CHECKS.state("make(9, ..) under way", () -> k.x().make(9, -1, -1));
        CHECKS.due("the tape stays", k.x().about(8), 1);
        k.x().crash();
        CHECKS.due("make when broken", k.x().make(1, 0, 0), 1);
        CHECKS.due("path", k.paths(Keep.SOURCE), "a");
    }

    private static void makeFullSource() {
        Keep k = new Keep();
        for (int i = 1; i <= 60; i++) {
            CHECKS.due("make " + i, k.make("f" + i, Keep.FILE), i);
        }
        CHECKS.state("a 61st", () -> k.make("g", Keep.FILE));
        CHECKS.argument("a 61st of no path", () -> k.make("g/", Keep.FILE));
        CHECKS.due("entries", k.x().about(3), 60);
        CHECKS.due("entry 59", k.path(Keep.SOURCE, 59), "f9");
        CHECKS.due("chosen is still f60", k.write(0, "x") + k.x().entry(Keep.SOURCE, 56, 3), 2);
        CHECKS.due("f60 is entry 56", k.path(Keep.SOURCE, 56), "f60");
    }

    private static void orderOfPaths() {
        Keep k = new Keep();
        k.make("a", Keep.DIRECTORY);
        for (String path : new String[] {"a\u00ff", "a-", "a\u0001", "b", "A", "aa", "a/z", "\u0080", "\u007f"}) {
            k.make(path, Keep.FILE);
        }
        k.make("a/b", Keep.DIRECTORY);
        k.make("a/b-", Keep.FILE);
        k.make("a/b/c", Keep.FILE);
        CHECKS.due("order", k.paths(Keep.SOURCE),
                "A a a/b a/b/c a/b- a/z a\u0001 a- aa a\u00ff b \u007f \u0080");
    }

    private static void chooseFindsWholePaths() {
        Keep k = new Keep();
        k.make("d", Keep.DIRECTORY);
        k.make("d/f", Keep.FILE);
        k.make("d/l", Keep.LINK);
        CHECKS.due("choose d", k.choose("d"), 2);
        CHECKS.due("choose d/f", k.choose("d/f"), 1);
        CHECKS.due("choose d/l", k.choose("d/l"), 3);
        CHECKS.due("the tape is empty", k.x().about(8), 0);
        for (String path : new String[] {"", "f", "d/", "d/f/", "d/ff", "d\0f", "/d", "d/f\0", "e", "D"}) {
            k.choose("d");
            CHECKS.due("choose " + path, k.choose(path), -1);
            CHECKS.due("the tape is empty behind " + path, k.x().about(8), 0);
            CHECKS.state("nothing is chosen behind " + path, () -> k.x().set(0, 0));
        }
        k.x().begin(0);
        CHECKS.due("choose under way", k.choose("d/f"), 1);
        k.x().crash();
        CHECKS.due("what was chosen under way is", k.write(0, "abc"), 3);
        CHECKS.due("choose when broken", k.choose("d"), 2);
    }

    private static void writeOverAndBehind() {
        Keep k = new Keep();
        k.make("f", Keep.FILE, 7, 8);
        CHECKS.due("write(0)", k.write(0, "abcdef"), 6);
        CHECKS.due("the tape is empty", k.x().about(8), 0);
        CHECKS.due("write(2) within", k.write(2, "XY"), 6);
        CHECKS.due("content", k.content(Keep.SOURCE, 0), "abXYef");
        CHECKS.due("write(5) beyond", k.write(5, "123"), 8);
        CHECKS.due("write(8) at the end", k.write(8, "\u00ff\0"), 10);
        CHECKS.due("write(3) of nothing", k.write(3, ""), 10);
        CHECKS.due("write(10) of nothing", k.write(10, ""), 10);
        CHECKS.due("source", k.tree(Keep.SOURCE), "f:1,7,8=abXYe123\u00ff\0");
        k.make("g", Keep.FILE);
        CHECKS.due("write into g", k.write(0, "g"), 1);
        CHECKS.due("f is as it was", k.x().entry(Keep.SOURCE, 0, 3), 10);
        CHECKS.due("about(6)", k.x().about(6), 11);
    }

    private static void writeRefusals() {
        Keep k = new Keep();
        k.make("d", Keep.DIRECTORY);
        CHECKS.state("write into a directory", () -> k.write(0, "x"));
        CHECKS.state("write(-1) into a directory", () -> k.write(-1, "x"));
        CHECKS.due("the tape is empty", k.x().about(8), 0);
        k.choose("");
        CHECKS.state("write into nothing", () -> k.write(-1, "x"));
        CHECKS.due("the tape is empty too", k.x().about(8), 0);
        k.file("f", "abc");
        CHECKS.argument("write(4) of 3", () -> k.write(4, "x"));
        CHECKS.due("the tape is empty again", k.x().about(8), 0);
        CHECKS.argument("write(4) of 3, no bytes", () -> k.x().write(4));
        CHECKS.argument("write(-1)", () -> k.write(-1, "x"));
        CHECKS.argument("write(least)", () -> k.write(Integer.MIN_VALUE, "x"));
        CHECKS.argument("write(-2000), no bytes", () -> k.x().write(-2000));
        CHECKS.argument("write(1500), no bytes", () -> k.x().write(1500));
        CHECKS.state("write(1501), no bytes", () -> k.x().write(1501));
        CHECKS.argument("write(1499), a byte", () -> k.write(1499, "x"));
        CHECKS.state("write(1500), a byte", () -> k.write(1500, "x"));
        CHECKS.state("write(most)", () -> k.write(Integer.MAX_VALUE, "x"));
        CHECKS.state("write(most), no bytes", () -> k.x().write(Integer.MAX_VALUE));
        CHECKS.due("content", k.content(Keep.SOURCE, 1), "abc");
    }

    private static void writeLimitOfFiles() {
        Keep k = new Keep();
        k.make("f", Keep.FILE);
        for (int i = 0; i < 3; i++) {
            k.write(400 * i, "x".repeat(400));
        }
        CHECKS.due("write up to 1500", k.write(1200, "y".repeat(300)), 1500);
        CHECKS.state("write a byte more", () -> k.write(1500, "z"));
        CHECKS.state("write over the end", () -> k.write(1499, "zz"));
        CHECKS.due("write nothing at the end", k.x().write(1500), 1500);
        CHECKS.due("write the last byte", k.write(1499, "z"), 1500);
        CHECKS.due("byte 1498", k.x().at(Keep.SOURCE, 0, false, 1498), 'y');
        CHECKS.due("byte 1499", k.x().at(Keep.SOURCE, 0, false, 1499), 'z');
        CHECKS.due("byte 1500", k.x().at(Keep.SOURCE, 0, false, 1500), -1);
    }

    private static void writeLimitOfLinks() {
        Keep k = new Keep();
        k.make("l", Keep.LINK);
        CHECKS.due("write 100", k.write(0, "x".repeat(100)), 100);
        CHECKS.state("write 101", () -> k.write(0, "y".repeat(101)));
        CHECKS.state("write(100)", () -> k.write(100, "y"));
        CHECKS.state("write(101), no bytes", () -> k.x().write(101));
        CHECKS.due("write(100), no bytes", k.x().write(100), 100);
        CHECKS.state("write(-5) of 106", () -> k.write(-5, "y".repeat(106)));
        CHECKS.argument("write(-5) of 105", () -> k.write(-5, "y".repeat(105)));
        CHECKS.due("content", k.content(Keep.SOURCE, 0), "x".repeat(100));
    }

    private static Keep nearlyFull() {
        Keep k = new Keep();
        for (String name : new String[] {"a", "b", "c"}) {
            k.make(name, Keep.FILE);
            for (int i = 0; i < 3; i++) {
                k.write(400 * i, name.repeat(400));
            }
        }
        k.file("d", "d".repeat(390));
        return k;
    }

    private static void writeLimitOfAll() {
        Keep k = nearlyFull();
        CHECKS.due("about(6)", k.x().about(6), 3990);
        CHECKS.argument("write(400) of 390", () -> k.x().write(400));
        CHECKS.state("write(401) of 390", () -> k.x().write(401));
        CHECKS.state("write(391) of 390, 20 bytes", () -> k.write(391, "e".repeat(20)));
        CHECKS.state("write 11 more", () -> k.write(390, "e".repeat(11)));
        CHECKS.due("the tape is empty", k.x().about(8), 0);
        CHECKS.due("write 10 more", k.write(390, "e".repeat(10)), 400);
        CHECKS.due("about(6) when full", k.x().about(6), 4000);
        CHECKS.state("write a byte more", () -> k.write(400, "f"));
        CHECKS.due("write over", k.write(398, "ff"), 400);
        k.make("e", Keep.LINK);
        CHECKS.state("a link, too", () -> k.write(0, "x"));
        CHECKS.due("write nothing", k.x().write(0), 0);
        k.choose("a");
        k.x().cut(1100);
        k.choose("e");
        CHECKS.due("write what was cut", k.write(0, "x".repeat(100)), 100);
        CHECKS.due("about(6) again", k.x().about(6), 4000);
    }

    private static void writeUnderWay() {
        Keep k = new Keep();
        k.file("f", "abc");
        k.x().begin(1);
        k.tape("xyz");
        CHECKS.state("write under way", () -> k.x().write(0));
        CHECKS.state("write(-1) under way", () -> k.x().write(-1));
        CHECKS.due("the tape stays", k.x().about(8), 3);
        CHECKS.due("content", k.content(Keep.SOURCE, 0), "abc");
        k.x().crash();
        CHECKS.due("write when broken", k.x().write(2), 5);
        CHECKS.due("content then", k.content(Keep.SOURCE, 0), "abxyz");
    }

    private static void cutShortens() {
        Keep k = new Keep();
        k.file("f", "abcdef");
        k.tape("zz");
        k.x().cut(6);
        CHECKS.due("cut(6)", k.content(Keep.SOURCE, 0), "abcdef");
        k.x().cut(2);
        CHECKS.due("cut(2)", k.content(Keep.SOURCE, 0), "ab");
        CHECKS.due("the tape stays", k.x().about(8), 2);
        CHECKS.due("about(6)", k.x().about(6), 2);
        CHECKS.due("write behind it", k.x().write(2), 4);
        k.x().cut(0);
        CHECKS.due("cut(0)", k.x().entry(Keep.SOURCE, 0, 3), 0);
        k.make("l", Keep.LINK);
        k.write(0, "target");
        k.x().cut(1);
        CHECKS.due("a link is cut", k.content(Keep.SOURCE, 1), "t");
    }

    private static void cutRefusals() {
        Keep k = new Keep();
        k.make("d", Keep.DIRECTORY);
        CHECKS.state("cut a directory", () -> k.x().cut(0));
        CHECKS.state("cut(-1) a directory", () -> k.x().cut(-1));
        k.choose("");
        CHECKS.state("cut nothing", () -> k.x().cut(-1));
        k.file("f", "abc");
        for (int length : new int[] {-1, 4, Integer.MIN_VALUE, Integer.MAX_VALUE}) {
            CHECKS.argument("cut(" + length + ") of 3", () -> k.x().cut(length));
        }
        k.x().begin(1);
        CHECKS.state("cut under way", () -> k.x().cut(1));
        CHECKS.state("cut(9) under way", () -> k.x().cut(9));
        CHECKS.due("content", k.content(Keep.SOURCE, 1), "abc");
        k.x().crash();
        k.x().cut(1);
        CHECKS.due("cut when broken", k.content(Keep.SOURCE, 1), "a");
    }

    private static void setSets() {
        Keep k = new Keep();
        k.file("f", "abc");
        k.tape("zz");
        k.x().set(4095, Integer.MAX_VALUE);
        CHECKS.due("the tape stays", k.x().about(8), 2);
        k.x().choose();
        CHECKS.state("set nothing", () -> k.x().set(1, 1));
        CHECKS.state("set(-1, -1) of nothing", () -> k.x().set(-1, -1));
        CHECKS.due("f", k.tree(Keep.SOURCE), "f:1,4095,2147483647=abc");
        k.make("d", Keep.DIRECTORY, 1, 2);
        k.x().set(0, 0);
        for (int mode : new int[] {-1, 4096, Integer.MIN_VALUE, Integer.MAX_VALUE}) {
            CHECKS.argument("set(" + mode + ", 0)", () -> k.x().set(mode, 0));
        }
        CHECKS.argument("set(5, -1)", () -> k.x().set(5, -1));
        CHECKS.argument("set(5, least)", () -> k.x().set(5, Integer.MIN_VALUE));
        k.x().begin(1);
        CHECKS.state("set under way", () -> k.x().set(5, 5));
        CHECKS.state("set(-1, -1) under way", () -> k.x().set(-1, -1));
        CHECKS.due("d", k.x().entry(0, 0, 0) + " " + k.x().entry(0, 0, 1) + " " + k.x().entry(0, 0, 2), "2 0 0");
        k.x().crash();
        k.x().set(6, 7);
        CHECKS.due("d then", k.x().entry(0, 0, 1) + " " + k.x().entry(0, 0, 2), "6 7");
    }

    private static void removeTakesWhatIsBelow() {
        Keep k = new Keep();
        for (String path : new String[] {"d", "d/e", "d/e/f", "dd", "d-", "a"}) {
            k.make(path, Keep.DIRECTORY);
        }
        k.file("d/e/f/x", "123");
        k.file("dd/x", "45");
        k.file("a/d", "6");
        CHECKS.due("remove d/e", k.remove("d/e"), 3);
        CHECKS.due("behind d/e", k.paths(Keep.SOURCE), "a a/d d d- dd dd/x");
        CHECKS.state("nothing is chosen then", () -> k.x().remove());
        CHECKS.state("nothing to set either", () -> k.x().set(0, 0));
        CHECKS.due("about(6)", k.x().about(6), 3);
        CHECKS.due("remove d", k.remove("d"), 1);
        CHECKS.due("remove dd/x", k.remove("dd/x"), 1);
        CHECKS.due("remove a", k.remove("a"), 2);
        CHECKS.due("left", k.paths(Keep.SOURCE), "d- dd");
        CHECKS.due("about(3)", k.x().about(3), 2);
        CHECKS.due("about(6) then", k.x().about(6), 0);
        CHECKS.due("choose a/d", k.choose("a/d"), -1);
    }

    private static void removeRefusals() {
        Keep k = new Keep();
        k.make("a", Keep.FILE);
        k.tape("zz");
        k.x().begin(1);
        CHECKS.state("remove under way", () -> k.x().remove());
        k.x().crash();
        CHECKS.due("still chosen, removed when broken", k.x().remove(), 1);
        CHECKS.due("the tape stays", k.x().about(8), 2);
        CHECKS.state("remove nothing", () -> k.x().remove());
    }
}
