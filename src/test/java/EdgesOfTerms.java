/** The section "Terms" of the document, sentence by sentence: each limit that it names, from both sides. */
public final class EdgesOfTerms {
    private static final Checks CHECKS = new Checks("EdgesOfTerms");
    private static final String WHERE = "Terms";
    private static final String LONGEST = "n".repeat(24);
    private static final String TOO_LONG = "n".repeat(25);

    public static void main(String[] args) {
        namesAreOneToTwentyFourBytes();
        namesHaveNoZeroAndNoSlash();
        namesAreNotDotsAlone();
        pathsAreOneToSixNames();
        orderIsNameByName();
        orderIsByteByByte();
        orderHasWhatIsAtAnEndFirst();
        orderIsThatOfAllTrees();
        treeHasSixtyEntries();
        entriesHavePathsOfTheirOwn();
        kindsModesAndTimes();
        contentOfEachKind();
        contentOfAll();
        entriesHaveTheirDirectory();
        mirrorIsEmptyAtFirst();
        fortySessions();
        sessionsHaveATimeAndATree();
        mirrorIsThatOfTheLatest();
        mirrorMayHaveTwiceTheEntries();
        mirrorMayHaveTwiceTheBytes();
        operationsOfNoChange();
        operationsOfOneChange();
        changesInOrderOfTheirPaths();
        changesOfEachPart();
        regressOfASnapshot();
        regressOfAnUpdate();
        regressOfAnIncrement();
        regressOfMark();
        regressPutsBackWhatWas();
        regressGoesOnFromThere();
        CHECKS.end();
    }

    /** An object whose source has the directory d. */
    private static Keep withDirectory() {
        Keep k = new Keep();
        k.make("d", Keep.DIRECTORY);
        return k;
    }

    private static void path(String path) {
        Keep k = withDirectory();
        CHECKS.due("make " + path, Checks.answer(() -> k.make(path, Keep.FILE)), "2");
        CHECKS.due("choose " + path, k.choose(path), 1);
    }

    private static void noPath(String path) {
        Keep k = withDirectory();
        CHECKS.argument("make " + path, () -> k.make(path, Keep.FILE));
        CHECKS.due("choose " + path, k.choose(path), -1);
        CHECKS.due("entries", k.x().about(3), 1);
    }

    private static void namesAreOneToTwentyFourBytes() {
        CHECKS.sentence(WHERE, "NAMES: 1 to 24 bytes");
        for (int length = 1; length <= 24; length++) {
            path("n".repeat(length));
            path("d/" + "n".repeat(length));
        }
        for (String none : new String[] {"", "/", "d/", "/d", "//", "d//", "//d", "d//d", TOO_LONG, "d/" + TOO_LONG,
            TOO_LONG + "/d", "d/" + TOO_LONG + "/d", "n".repeat(400)}) {
            noPath(none);
        }
    }

    private static void namesHaveNoZeroAndNoSlash() {
        CHECKS.sentence(WHERE, "none of them 0 or 47 (/)");
        for (char b = 0; b <= 255; b++) {
            if (b == 0 || b == 47) {
                noPath("" + b);
                noPath(b + "a");
                noPath("a" + b);
                noPath("d/" + b);
            } else {
                path("a" + b);
                path(b + "a");
                path("d/a" + b);
            }
        }
        noPath("a\0a");
        noPath("d/a\0a");
        noPath("d\0/a");
        noPath(LONGEST.substring(1) + "\0");
    }

    private static void namesAreNotDotsAlone() {
        CHECKS.sentence(WHERE, "not . or .. alone");
        for (String none : new String[] {".", "..", "d/.", "d/..", "./d", "../d", "d/./a", "d/../a", "./.", "../.."}) {
            noPath(none);
        }
        for (String one : new String[] {"...", "....", ".a", "..a", "a.", "a..", "a.a", ".a.", "d/...", "d/.a", "d/..a",
            "d/a.", ".".repeat(24), "d.", "-.", ". ", ".. "}) {
            path(one);
        }
    }

    private static void pathsAreOneToSixNames() {
        CHECKS.sentence(WHERE, "PATHS: 1 to 6 names with / between");
        for (String name : new String[] {"d", LONGEST}) {
            Keep k = new Keep();
            String path = name;
            for (int names = 1; names <= 6; names++) {
                CHECKS.due("names: " + names, k.make(path, Keep.DIRECTORY), names);
                CHECKS.due("bytes of " + names, k.x().entry(Keep.SOURCE, names - 1, 4), path.length());
                path = path + "/" + name;
            }
            String seven = path;
            CHECKS.argument("names: 7", () -> k.make(seven, Keep.DIRECTORY));
            CHECKS.argument("names: 8", () -> k.make(seven + "/d", Keep.DIRECTORY));
            CHECKS.due("entries", k.x().about(3), 6);
        }
        noPath("a/b/c/d/e/f/g");
        noPath("d/b/c/d/e/f/");
        noPath("/b/c/d/e/f");
        Keep k = withDirectory();
        CHECKS.state("six names, but no directory", () -> k.make("a/b/c/d/e/f", Keep.FILE));
    }

    /** Makes what comes in order from its last one to its first, directories first, and looks at the order. */
    private static void order(String... paths) {
        Keep k = new Keep();
        for (int names = 1; names <= 6; names++) {
            for (int i = paths.length - 1; i >= 0; i--) {
                if (paths[i].split("/").length == names) {
                    k.make(paths[i], Keep.DIRECTORY);
                }
            }
        }
        CHECKS.due("order", k.paths(Keep.SOURCE), String.join(" ", paths));
    }

    private static void orderIsNameByName() {
        CHECKS.sentence(WHERE, "name by name");
        order("a", "a/b", "a\u0001", "a\u0001/a");
        order("a", "a/z", "a-", "a-/a", "a.", "a./a", "a0", "a0/a");
        order("a", "a/b", "a/b/z", "a/b-", "a/b-/a", "a/c");
        order("B", "a", "a/B", "a/B/z", "a/a", "b", "b/A");
    }

    private static void orderIsByteByByte() {
        CHECKS.sentence(WHERE, "byte by byte (0 .. 255)");
        order("\u0001", "\u0002", ".-", "0", "A", "a", "\u007f", "\u0080", "\u0081", "\u00ff");
        order("a", "a/\u0001", "a/\u007f", "a/\u0080", "a/\u00ff", "b");
        order("ab", "ac", "b", "ba", "c\u007f", "c\u0080");
    }

    private static void orderHasWhatIsAtAnEndFirst() {
        CHECKS.sentence(WHERE, "what is at an end first");
        order("a", "aa", "aaa", "b", "bb");
        order("a", "a/a", "a/a/a", "a/aa", "aa", "aa/a");
        order("a", "a/a", "a/a\u0001", "a/aa", "a\u0001");
    }

    private static void orderIsThatOfAllTrees() {
        CHECKS.sentence("Promise 17", "of its i-th entry in ORDER");
        Keep k = new Keep();
        for (String path : new String[] {"b", "a\u0001", "a", "\u00ff"}) {
            k.make(path, Keep.DIRECTORY);
        }
        k.make("a/z", Keep.FILE);
        k.session(1);
        k.x().restore(1);
        for (int tree = Keep.SOURCE; tree <= Keep.RESULT; tree++) {
            CHECKS.due("tree " + tree, k.paths(tree), "a a/z a\u0001 b \u00ff");
        }
    }

    private static void treeHasSixtyEntries() {
        CHECKS.sentence(WHERE, "A TREE has at most 60 ENTRIES");
        Keep k = withDirectory();
        for (int i = 2; i <= 59; i++) {
            k.make("d/" + i, Keep.FILE);
        }
        CHECKS.due("a 60th", k.make("l", Keep.LINK), 60);
        for (int kind = 1; kind <= 3; kind++) {
            int one = kind;
            CHECKS.state("a 61st", () -> k.make("m", one));
        }
        CHECKS.due("remove one", k.remove("d/30"), 1);
        CHECKS.due("a 60th again", k.make("m", Keep.FILE), 60);
        CHECKS.state("a 61st again", () -> k.make("n", Keep.FILE));
        CHECKS.due("remove all but two", k.remove("d"), 58);
        CHECKS.due("a third", k.make("n", Keep.FILE), 3);
    }

    private static void entriesHavePathsOfTheirOwn() {
        CHECKS.sentence(WHERE, "each with a path of its own");
        for (int had = 1; had <= 3; had++) {
            for (int kind = 1; kind <= 3; kind++) {
                Keep k = new Keep();
                int another = kind;
                k.make("a", had);
                CHECKS.state("a second one", () -> k.make("a", another));
                CHECKS.due("entries", k.x().about(3), 1);
                CHECKS.due("its kind", k.x().entry(Keep.SOURCE, 0, 0), had);
            }
        }
    }

    private static void kindsModesAndTimes() {
        CHECKS.sentence(WHERE, "a KIND (1 FILE, 2 DIRECTORY, 3 LINK), a MODE 0 .. 4095, a TIME 0 and above");
        int[][] some = {{1, 0, 0}, {2, 4095, Integer.MAX_VALUE}, {3, 1, 1}, {1, 4094, 4096}, {2, 2048, 65536}};
        for (int[] one : some) {
            Keep k = new Keep();
            CHECKS.due("make", k.make("a", one[0], one[1], one[2]), 1);
            CHECKS.due("told", k.tree(Keep.SOURCE), "a:" + one[0] + "," + one[1] + "," + one[2] + "=");
        }
        int[][] none = {{0, 0, 0}, {4, 0, 0}, {-1, 0, 0}, {257, 0, 0}, {1, -1, 0}, {1, 4096, 0}, {1, 65536, 0},
            {1, 0, -1}, {1, 0, Integer.MIN_VALUE}, {1, Integer.MIN_VALUE, 0}, {1, Integer.MAX_VALUE, 0},
            {Integer.MIN_VALUE, 0, 0}, {Integer.MAX_VALUE, 0, 0}};
        for (int[] one : none) {
            Keep k = new Keep();
            CHECKS.argument("make(" + one[0] + ", " + one[1] + ", " + one[2] + ")",
                    () -> k.make("a", one[0], one[1], one[2]));
            CHECKS.due("entries", k.x().about(3), 0);
        }
    }

    private static void contentOfEachKind() {
        CHECKS.sentence(WHERE, "but for a DIRECTORY, CONTENT: bytes, of a FILE at most 1500, of a LINK at most 100");
        Keep k = withDirectory();
        CHECKS.state("a byte of a directory", () -> k.writeZeros(0, 1));
        CHECKS.state("no byte of a directory", () -> k.x().write(0));
        k.make("f", Keep.FILE);
        CHECKS.due("1500 of a file", k.fill(1500), 1500);
        CHECKS.state("1501 of a file", () -> k.writeZeros(1500, 1));
        k.make("l", Keep.LINK);
        CHECKS.due("100 of a link", k.fill(100), 100);
        CHECKS.state("101 of a link", () -> k.writeZeros(100, 1));
        CHECKS.due("all", k.x().about(6), 1600);
        for (int i = 0; i < 3; i++) {
            CHECKS.due("entry " + i, k.x().entry(Keep.SOURCE, i, 3), new int[] {0, 1500, 100}[i]);
        }
    }

    private static void contentOfAll() {
        CHECKS.sentence(WHERE, "all together at most 4000");
        Keep k = new Keep();
        k.make("a", Keep.FILE);
        k.fill(1500);
        k.make("b", Keep.FILE);
        k.fill(1500);
        k.make("c", Keep.FILE);
        k.fill(900);
        k.make("l", Keep.LINK);
        CHECKS.due("99 more", k.fill(99), 99);
        CHECKS.due("all but one", k.x().about(6), 3999);
        CHECKS.due("the last one", k.writeZeros(99, 1), 100);
        CHECKS.due("all", k.x().about(6), 4000);
        k.choose("c");
        CHECKS.state("one more", () -> k.writeZeros(900, 1));
        CHECKS.due("what is there may be written over", k.writeZeros(0, 20), 900);
        CHECKS.due("it goes with its entry", k.remove("l"), 1);
        CHECKS.due("all then", k.x().about(6), 3900);
        k.choose("c");
        CHECKS.state("101 more", () -> k.writeZeros(900, 101));
        CHECKS.due("100 more", k.writeZeros(900, 100), 1000);
    }

    private static void entriesHaveTheirDirectory() {
        CHECKS.sentence(WHERE, "has a DIRECTORY with the path of all names but the last");
        Keep k = withDirectory();
        k.make("d/e", Keep.DIRECTORY);
        k.make("d/e/f", Keep.FILE);
        for (String path : new String[] {"e/f", "d/f/g", "d/e/f/g", "e/d", "d/d/e", "D/e", "dd/e"}) {
            CHECKS.state("make " + path, () -> k.make(path, Keep.FILE));
        }
        k.remove("d/e");
        CHECKS.state("its directory went", () -> k.make("d/e/f", Keep.FILE));
        k.make("d/e", Keep.LINK);
        CHECKS.state("a link is none", () -> k.make("d/e/f", Keep.FILE));
        k.x().remove();
        k.make("d/e", Keep.FILE);
        CHECKS.state("a file is none", () -> k.make("d/e/f", Keep.FILE));
        k.x().remove();
        k.make("d/e", Keep.DIRECTORY);
        CHECKS.due("a directory is one", k.make("d/e/f", Keep.FILE), 3);
    }

    private static void mirrorIsEmptyAtFirst() {
        CHECKS.sentence(WHERE, "THE MIRROR, a tree, empty at first");
        Keep k = new Keep();
        CHECKS.due("entries", k.x().about(4), 0);
        k.make("a", Keep.FILE);
        CHECKS.due("entries behind make", k.x().about(4), 0);
        k.x().begin(1);
        k.x().step(2);
        CHECKS.due("entries ahead of the update", k.x().about(4), 0);
        k.x().step(1);
        CHECKS.due("entries behind the update", k.x().about(4), 1);
    }

    private static void fortySessions() {
        CHECKS.sentence(WHERE, "SESSIONS, at most 40");
        Keep k = new Keep();
        for (int i = 1; i <= 40; i++) {
            k.session(10 * i);
            CHECKS.due("sessions", k.x().about(1), i);
        }
        CHECKS.state("one more", () -> k.x().begin(1000));
        CHECKS.due("the first", k.x().session(0, 0), 10);
        CHECKS.due("the last", k.x().session(39, 0), 400);
        CHECKS.due("prune", k.x().prune(399), 38);
        CHECKS.due("sessions then", k.x().about(1), 2);
        for (int i = 3; i <= 40; i++) {
            k.session(400 + i);
        }
        CHECKS.due("forty again", k.x().about(1), 40);
        CHECKS.state("one more again", () -> k.x().begin(1000));
    }

    private static void sessionsHaveATimeAndATree() {
        CHECKS.sentence(WHERE, "each with a time and the tree that THE SOURCE was then");
        Keep k = new Keep();
        k.file("a", "one");
        k.session(1);
        k.write(3, "!");
        k.session(3);
        k.remove("a");
        k.session(4);
        String[] trees = {"a:1,0,0=one", "a:1,0,0=one!", ""};
        int[] times = {1, 3, 4};
        for (int i = 0; i < 3; i++) {
            CHECKS.due("time", k.x().session(i, 0), times[i]);
            CHECKS.due("entries", k.x().restore(times[i]), i == 2 ? 0 : 1);
            CHECKS.due("tree", k.tree(Keep.RESULT), trees[i]);
        }
        CHECKS.sentence(WHERE, "The constants: `NONE = -1`: None.");
        CHECKS.due("NONE", MirrorKeep.NONE, -1);
    }

    private static void mirrorIsThatOfTheLatest() {
        CHECKS.sentence(WHERE, "the mirror is that of the latest one, if none is under way or BROKEN");
        Keep k = new Keep();
        k.file("a", "one");
        k.session(1);
        k.x().set(7, 7);
        k.make("b", Keep.FILE);
        CHECKS.due("the source moved", k.tree(Keep.MIRROR), "a:1,0,0=one");
        k.session(2);
        CHECKS.due("the second's", k.tree(Keep.MIRROR), "a:1,7,7=one b:1,0,0=");
        k.remove("a");
        k.x().begin(3);
        k.x().step(3);
        k.x().crash();
        k.x().regress(200);
        CHECKS.due("the second's still", k.paths(Keep.MIRROR), "a b");
        k.x().prune(2);
        k.x().restore(2);
        CHECKS.due("the result is it", k.tree(Keep.RESULT), k.tree(Keep.MIRROR));
    }

    /** A mirror with 60 entries of z, and a source with 60 of a: its updates come ahead of all removals. */
    private static Keep withTwoFullTrees() {
        Keep k = new Keep();
        for (String top : new String[] {"z", "a"}) {
            k.make(top, Keep.DIRECTORY);
            for (int i = 1; i < 60; i++) {
                k.make(top + "/" + i, Keep.FILE);
            }
            if (top.equals("z")) {
                k.session(1);
                k.remove("z");
            }
        }
        return k;
    }

    private static void mirrorMayHaveTwiceTheEntries() {
        CHECKS.sentence(WHERE, "else it may have up to twice as many entries and bytes as a TREE has");
        Keep k = withTwoFullTrees();
        CHECKS.due("begin", k.x().begin(2), 243);
        k.x().step(120);
        CHECKS.due("119", k.x().about(4), 119);
        k.x().step(1);
        CHECKS.due("120", k.x().about(4), 120);
        CHECKS.due("the last one's path", k.path(Keep.MIRROR, 119), "z/9");
        CHECKS.due("none behind it", k.x().entry(Keep.MIRROR, 120, 0), -1);
        k.x().crash();
        CHECKS.due("120 when BROKEN", k.x().about(4), 120);
        CHECKS.due("another source", k.remove("a"), 60);
        for (int i = 0; i < 30; i++) {
            k.make("k" + i, Keep.FILE);
        }
        CHECKS.due("differ", k.x().differ(), 150);
        CHECKS.due("regress", k.x().regress(200), 121);
        CHECKS.due("60", k.x().about(4), 60);
    }

    private static int mirrorBytes(Keep k) {
        int bytes = 0;
        for (int i = 0; i < k.x().about(4); i++) {
            bytes += k.x().entry(Keep.MIRROR, i, 3);
        }
        return bytes;
    }

    private static void mirrorMayHaveTwiceTheBytes() {
        CHECKS.sentence(WHERE, "else it may have up to twice as many entries and bytes as a TREE has");
        Keep k = new Keep();
        for (String top : new String[] {"z", "a"}) {
            k.make(top, Keep.DIRECTORY);
            for (int i = 0; i < 3; i++) {
                k.make(top + "/" + i, Keep.FILE);
                k.fill(i == 2 ? 1000 : 1500);
            }
            if (top.equals("z")) {
                k.session(1);
                k.remove("z");
            }
        }
        CHECKS.due("source", k.x().about(6), 4000);
        k.x().begin(2);
        k.x().step(9);
        CHECKS.due("entries", k.x().about(4), 8);
        CHECKS.due("bytes", mirrorBytes(k), 8000);
        k.x().step(200);
        CHECKS.due("bytes at rest", mirrorBytes(k), 4000);
    }

    private static void dueState(Keep k, int state, int sessions, int done, int mirror, int increments) {
        CHECKS.due("state, sessions, done, mirror, increments",
                k.x().about(0) + " " + k.x().about(1) + " " + k.x().about(2) + " " + k.x().about(4) + " "
                        + k.x().about(7),
                state + " " + sessions + " " + done + " " + mirror + " " + increments);
    }

    private static void operationsOfNoChange() {
        CHECKS.sentence(WHERE, "A session does, one after the other, these OPERATIONS");
        Keep k = new Keep();
        CHECKS.due("MARK, SNAPSHOT, COMMIT", k.x().begin(0), 3);
        dueState(k, 1, 0, 0, 0, 0);
        CHECKS.due("MARK", k.x().step(1), 1);
        dueState(k, 1, 0, 1, 0, 0);
        CHECKS.due("SNAPSHOT", k.x().step(1), 1);
        dueState(k, 1, 0, 2, 0, 0);
        CHECKS.due("COMMIT", k.x().step(1), 1);
        dueState(k, 0, 1, 0, 0, 0);
    }

    private static void operationsOfOneChange() {
        CHECKS.sentence(WHERE, "its INCREMENT (which leads back), then its UPDATE in the mirror");
        Keep k = new Keep();
        k.session(0);
        k.make("a", Keep.FILE);
        CHECKS.due("begin", k.x().begin(1), 5);
        dueState(k, 1, 1, 0, 0, 0);
        k.x().step(1);
        dueState(k, 1, 1, 1, 0, 0);
        k.x().step(1);
        dueState(k, 1, 1, 2, 0, 1);
        k.x().step(1);
        dueState(k, 1, 1, 3, 1, 1);
        CHECKS.sentence(WHERE, "SNAPSHOT (of what is told of all entries)");
        k.x().step(1);
        dueState(k, 1, 1, 4, 1, 1);
        CHECKS.sentence(WHERE, "COMMIT: it counts, the repository is AT REST");
        k.x().step(1);
        dueState(k, 0, 2, 0, 1, 1);
    }

    private static void changesInOrderOfTheirPaths() {
        CHECKS.sentence(WHERE, "for each CHANGE, these in order of their paths");
        Keep k = new Keep();
        for (String path : new String[] {"c", "b", "a-", "a"}) {
            k.make(path, Keep.DIRECTORY);
        }
        k.make("a/x", Keep.FILE);
        k.session(0);
        k.remove("c");
        k.choose("b");
        k.x().set(9, 9);
        k.make("a/y", Keep.FILE);
        k.remove("a-");
        k.make("a\u0001", Keep.FILE);
        CHECKS.due("begin", k.x().begin(1), 13);
        k.x().step(1);
        String[] want = {"a a/x a/y a- b c", "a a/x a/y a\u0001 a- b c", "a a/x a/y a\u0001 b c",
            "a a/x a/y a\u0001 b c", "a a/x a/y a\u0001 b"};
        for (int i = 0; i < want.length; i++) {
            k.x().step(2);
            CHECKS.due("behind update " + i, k.paths(Keep.MIRROR), want[i]);
            CHECKS.holds("b", k.tree(Keep.MIRROR).contains(i < 3 ? " b:2,0,0=" : " b:2,9,9="));
            CHECKS.due("differ", k.x().differ(), 4 - i);
        }
    }

    private static void changesOfEachPart() {
        CHECKS.sentence(WHERE,
                "A CHANGE is a path that one of mirror and source has, or both have with another KIND, MODE, TIME or content.");
        Keep k = new Keep();
        CHECKS.due("neither has one", k.x().differ(), 0);
        k.make("f", Keep.FILE, 5, 6);
        CHECKS.due("the source has it", k.x().differ(), 1);
        k.session(1);
        CHECKS.due("both have it", k.x().differ(), 0);
        k.remove("f");
        CHECKS.due("the mirror has it", k.x().differ(), 1);
        k.make("f", Keep.LINK, 5, 6);
        CHECKS.due("another KIND", k.x().differ(), 1);
        k.x().remove();
        k.make("f", Keep.FILE, 4, 6);
        CHECKS.due("another MODE", k.x().differ(), 1);
        k.x().set(5, 7);
        CHECKS.due("another TIME", k.x().differ(), 1);
        k.x().set(5, 6);
        CHECKS.due("the same", k.x().differ(), 0);
        k.writeZeros(0, 1);
        CHECKS.due("longer content", k.x().differ(), 1);
        k.session(2);
        k.choose("f");
        k.write(0, "\u0080");
        CHECKS.due("another byte", k.x().differ(), 1);
        k.write(0, "\0");
        CHECKS.due("the same byte", k.x().differ(), 0);
        k.x().cut(0);
        CHECKS.due("shorter content", k.x().differ(), 1);
    }

    /** One change of each sort, and a crash behind so many of its nine operations. */
    private static Keep brokenBehind(int done) {
        Keep k = new Keep();
        k.file("a", "old");
        k.make("b", Keep.FILE, 1, 2);
        k.session(1);
        k.choose("a");
        k.write(0, "new!");
        k.remove("b");
        k.make("c", Keep.LINK);
        k.x().begin(2);
        k.x().step(done);
        k.x().crash();
        return k;
    }

    private static void regressOfASnapshot() {
        CHECKS.sentence(WHERE, "if SNAPSHOT was done, that is taken back");
        Keep k = brokenBehind(8);
        dueState(k, 2, 1, 8, 2, 3);
        CHECKS.due("regress(1)", k.x().regress(1), 1);
        dueState(k, 2, 1, 7, 2, 3);
        CHECKS.due("mirror", k.tree(Keep.MIRROR), "a:1,0,0=new! c:3,0,0=");
        CHECKS.sentence(WHERE, "then, from the last CHANGE on, its UPDATE, if it was done");
        CHECKS.due("regress(1) more", k.x().regress(1), 1);
        dueState(k, 2, 1, 6, 1, 3);
        CHECKS.due("mirror then", k.tree(Keep.MIRROR), "a:1,0,0=new!");
    }

    private static void regressOfAnUpdate() {
        CHECKS.sentence(WHERE, "then, from the last CHANGE on, its UPDATE, if it was done");
        Keep k = brokenBehind(7);
        dueState(k, 2, 1, 7, 2, 3);
        CHECKS.due("regress(1)", k.x().regress(1), 1);
        dueState(k, 2, 1, 6, 1, 3);
        CHECKS.sentence(WHERE, "then its INCREMENT");
        CHECKS.due("regress(1) more", k.x().regress(1), 1);
        dueState(k, 2, 1, 5, 1, 2);
    }

    private static void regressOfAnIncrement() {
        CHECKS.sentence(WHERE, "its UPDATE, if it was done");
        Keep k = brokenBehind(4);
        dueState(k, 2, 1, 4, 2, 2);
        CHECKS.due("regress(1)", k.x().regress(1), 1);
        dueState(k, 2, 1, 3, 2, 1);
        CHECKS.due("mirror", k.tree(Keep.MIRROR), "a:1,0,0=new! b:1,1,2=");
        CHECKS.due("regress(1) more", k.x().regress(1), 1);
        dueState(k, 2, 1, 2, 2, 1);
        CHECKS.due("mirror then", k.tree(Keep.MIRROR), "a:1,0,0=old b:1,1,2=");
        CHECKS.due("regress(1) once more", k.x().regress(1), 1);
        dueState(k, 2, 1, 1, 2, 0);
    }

    private static void regressOfMark() {
        CHECKS.sentence(WHERE, "MARK at last: the repository is AT REST, as it was ahead of the session");
        Keep k = brokenBehind(1);
        dueState(k, 2, 1, 1, 2, 0);
        CHECKS.due("regress(1)", k.x().regress(1), 1);
        dueState(k, 0, 1, 0, 2, 0);
        CHECKS.due("differ", k.x().differ(), 3);
        CHECKS.due("its time is free", k.x().begin(2), 9);
    }

    private static void regressPutsBackWhatWas() {
        CHECKS.sentence(WHERE, "the entry is in the mirror again what it was, or is not there");
        for (int done = 0; done <= 8; done++) {
            Keep k = brokenBehind(done);
            CHECKS.due("regress(200)", k.x().regress(200), done);
            CHECKS.due("mirror of " + done, k.tree(Keep.MIRROR), "a:1,0,0=old b:1,1,2=");
            dueState(k, 0, 1, 0, 2, 0);
            k.x().restore(1);
            CHECKS.due("result of " + done, k.tree(Keep.RESULT), "a:1,0,0=old b:1,1,2=");
        }
    }

    private static void regressGoesOnFromThere() {
        CHECKS.sentence(WHERE, "It may break off behind each of these, too, and goes on from there.");
        for (int first = 0; first < 8; first++) {
            Keep k = brokenBehind(8);
            CHECKS.due("first", k.x().regress(first), first);
            CHECKS.state("no step", () -> k.x().step(1));
            CHECKS.state("no begin", () -> k.x().begin(9));
            CHECKS.state("no crash", () -> k.x().crash());
            CHECKS.due("done", k.x().about(2), 8 - first);
            CHECKS.due("the rest", k.x().regress(200), 8 - first);
            CHECKS.due("mirror", k.tree(Keep.MIRROR), "a:1,0,0=old b:1,1,2=");
        }
    }
}
