import java.util.ArrayList;
import java.util.List;
import java.util.Random;
import java.util.function.IntSupplier;

/** Promises 1 to 20: long runs of calls of all kinds, each answer compared with that of a plain model. */
public final class ModelRuns {
    private static final int RUNS = 1500;
    private static final int CALLS = 512;
    private static final String[] NAMES = {"a", "b", "a-", "a\u0001", "ab", "\u00ff", ".a", "...", "n".repeat(24)};
    private static final String[] NO_NAMES = {"", ".", "..", "a\0", "n".repeat(25), "\0"};
    private static final int[] EDGES = {-1, 0, 1, 2, 3, 4, 5, 20, 21, 60, 100, 101, 200, 201, 400, 1500, 1501, 4000,
        4095, 4096, Integer.MAX_VALUE, Integer.MIN_VALUE};

    private static final Checks CHECKS = new Checks("ModelRuns");

    private final int seed;
    private final Random random;
    private final MirrorKeep keep = new MirrorKeep();
    private final Model model = new Model();
    private final List<String> calls = new ArrayList<>();
    private final int style;
    private boolean wrong = false;

    private ModelRuns(int seed) {
        this.seed = seed;
        this.random = new Random(seed);
        this.style = seed % 4;
    }

    public static void main(String[] args) {
        for (int seed = 0; seed < RUNS && !CHECKS.failed(); seed++) {
            new ModelRuns(seed).run();
        }
        CHECKS.end();
    }

    private void run() {
        while (calls.size() < CALLS && !wrong) {
            move();
        }
    }

    private void compare(String call, String got, String want) {
        calls.add(call + " = " + want);
        if (calls.size() > CALLS || wrong) {
            return;
        }
        CHECKS.due("run " + seed + ", call " + calls.size() + ", " + call, got, want);
        wrong = !got.equals(want);
        if (wrong) {
            calls.forEach(System.out::println);
        }
    }

    private void number(String call, IntSupplier got, IntSupplier want) {
        compare(call, Checks.answer(got), Checks.answer(want));
    }

    private void plain(String call, Runnable got, Runnable want) {
        compare(call, Checks.answer(got), Checks.answer(want));
    }

    private boolean oneIn(int n) {
        return random.nextInt(n) == 0;
    }

    private int upTo(int most) {
        return random.nextInt(most + 1);
    }

    private int usually(int most) {
        return oneIn(12) ? EDGES[random.nextInt(EDGES.length)] : upTo(most);
    }

    private void move() {
        int kind = random.nextInt(100);
        if (kind < 30) {
            moveOfTheSource();
        } else if (kind < 65) {
            moveOfTheRepository();
        } else {
            look();
        }
    }

    private void tape(String text) {
        byte[] bytes = Keep.bytes(text);
        for (int from = 0; from < bytes.length; from += 20) {
            int[] words = new int[5];
            for (int i = 0; i < 5; i++) {
                words[i] = Keep.word(bytes, from + 4 * i);
            }
            plain("feed", () -> keep.feed(words[0], words[1], words[2], words[3], words[4]),
                    () -> model.feed(words[0], words[1], words[2], words[3], words[4]));
            end(oneIn(60) ? usually(20) : Math.min(20, bytes.length - from));
        }
    }

    private void end(int n) {
        number("end(" + n + ")", () -> keep.end(n), () -> model.end(n));
    }

    private String path() {
        List<String> there = model.sourcePaths();
        String name = oneIn(25) ? NO_NAMES[random.nextInt(NO_NAMES.length)] : NAMES[random.nextInt(NAMES.length)];
        if (style == 1) {
            name = Integer.toString(random.nextInt(90));
        }
        if (there.isEmpty() || oneIn(2)) {
            return name;
        }
        String known = there.get(random.nextInt(there.size()));
        return oneIn(3) ? known : known + "/" + name;
    }

    private void moveOfTheSource() {
        switch (random.nextInt(style == 1 ? 14 : 9)) {
            case 0, 1: choose(); break;
            case 2, 3: write(); break;
            case 4: cut(); break;
            case 5: set(); break;
            case 6: if (oneIn(style == 1 ? 6 : 2)) { choose(); remove(); } break;
            default: make(); break;
        }
    }

    private void make() {
        tape(path());
        int kind = oneIn(30) ? usually(4) : 1 + (oneIn(2) ? 1 : upTo(2));
        int mode = usually(2);
        int time = usually(2);
        number("make(" + kind + ", " + mode + ", " + time + ")", () -> keep.make(kind, mode, time),
                () -> model.make(kind, mode, time));
    }

    private void choose() {
        List<String> there = model.sourcePaths();
        tape(there.isEmpty() || oneIn(8) ? path() : there.get(random.nextInt(there.size())));
        number("choose()", keep::choose, model::choose);
    }

    private void write() {
        tape(String.valueOf((char) upTo(255)).repeat(style == 2 ? upTo(410) : upTo(5)));
        int at = oneIn(4) ? usually(1600) : style == 2 ? 100 * upTo(12) : upTo(3);
        int place = oneIn(20) ? -at : at;
        number("write(" + place + ")", () -> keep.write(place), () -> model.write(place));
    }

    private void cut() {
        int length = usually(4);
        plain("cut(" + length + ")", () -> keep.cut(length), () -> model.cut(length));
    }

    private void set() {
        int mode = usually(2);
        int time = usually(2);
        plain("set(" + mode + ", " + time + ")", () -> keep.set(mode, time), () -> model.set(mode, time));
    }

    private void remove() {
        number("remove()", keep::remove, model::remove);
    }

    private void moveOfTheRepository() {
        switch (random.nextInt(10)) {
            case 0, 1: begin(); break;
            case 2, 3, 4: step(); break;
            case 5: if (oneIn(3)) { plain("crash()", keep::crash, model::crash); } break;
            case 6, 7: regress(); break;
            case 8: restore(); break;
            default: if (oneIn(5)) { prune(); } break;
        }
    }

    private int someTime() {
        return oneIn(8) ? EDGES[random.nextInt(14)] : model.latestTime() + 1 - random.nextInt(20) / 2;
    }

    private void begin() {
        int time = oneIn(10) ? someTime() : model.latestTime() + 1 + upTo(3);
        number("begin(" + time + ")", () -> keep.begin(time), () -> model.begin(time));
        if (style == 3) {
            number("step(200)", () -> keep.step(200), () -> model.step(200));
        }
    }

    private void step() {
        int n = oneIn(4) ? usually(250) : upTo(6);
        number("step(" + n + ")", () -> keep.step(n), () -> model.step(n));
    }

    private void regress() {
        int n = oneIn(4) ? usually(250) : upTo(4);
        number("regress(" + n + ")", () -> keep.regress(n), () -> model.regress(n));
    }

    private void restore() {
        int time = someTime();
        number("restore(" + time + ")", () -> keep.restore(time), () -> model.restore(time));
    }

    private void prune() {
        int time = someTime();
        number("prune(" + time + ")", () -> keep.prune(time), () -> model.prune(time));
    }

    private void look() {
        int tree = oneIn(30) ? usually(3) : upTo(2);
        int i = oneIn(10) ? usually(60) : upTo(6);
        switch (random.nextInt(5)) {
            case 0: number("differ()", keep::differ, model::differ); break;
            case 1: lookAtEntry(tree, i); break;
            case 2: lookAtByte(tree, i); break;
            case 3: lookAbout(); break;
            default: lookAtSession(i); break;
        }
    }

    private void lookAtEntry(int tree, int i) {
        int what = usually(4);
        number("entry(" + tree + ", " + i + ", " + what + ")", () -> keep.entry(tree, i, what),
                () -> model.entry(tree, i, what));
    }

    private void lookAtByte(int tree, int i) {
        boolean path = oneIn(2);
        int k = oneIn(3) ? usually(1500) : upTo(4);
        number("at(" + tree + ", " + i + ", " + path + ", " + k + ")", () -> keep.at(tree, i, path, k),
                () -> model.at(tree, i, path, k));
    }

    private void lookAbout() {
        int what = usually(8);
        number("about(" + what + ")", () -> keep.about(what), () -> model.about(what));
    }

    private void lookAtSession(int i) {
        int what = oneIn(10) ? usually(2) : upTo(1);
        number("session(" + i + ", " + what + ")", () -> keep.session(i, what), () -> model.session(i, what));
    }
}
