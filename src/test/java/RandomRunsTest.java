import java.util.ArrayList;
import java.util.List;
import java.util.Map;
import java.util.Random;
import java.util.TreeMap;
import java.util.function.ToIntFunction;

/**
 * All promises: random programs on the class and on Model must look the same from outside, wherever they stop. No
 * object is called more than the promised 512 times: when one is, a new one is told all that was done.
 */
public final class RandomRunsTest {
    private static final int RUNS = 10000;
    /** A run ends here, so that calls are left for questions. */
    private static final int DONE_LIMIT = 360;

    /** What the runs must have come to, for this test to say something about it. */
    private static final String[] RARE = {
        "blocked in 2", "blocked in 7", "blocked in 8", "blocked in 14", "broken pipe", "broken full pipe",
        "bad address", "no frame to copy to", "no frame for EXEC", "no frames to grow", "page copied",
        "too many open files", "too many open files for a pipe", "too many pipes", "no free file", "no block",
        "file is full", "write with PLACE behind the size", "end of a file", "end of a pipe", "commit by itself",
        "orphan to 0", "orphan to 1", "orphan zombie gone", "kills itself", "kills another", "kills a blocked one",
        "deadlock", "skip", "end of program",
    };

    /** Calls that do something together. */
    private static final int[][] TASTES = {
        {1, 2, 3, 14, 0, 5, 1, 16},
        {6, 7, 8, 9, 10, 1, 8, 7, 1},
        {11, 8, 8, 8, 7, 17, 12, 13, 18, 9, 10, 11, 11},
        {4, 1, 5, 4, 1, 1, 14},
        {0, 1, 2, 3, 4, 5, 6, 7, 8, 9, 10, 11, 12, 13, 14, 15, 16, 17, 18},
        {11, 11, 8, 8, 8, 8, 13},
        {6, 1, 14, 9, 8, 7, 6},
        {11, 13, 1, 11, 13, 14},
    };

    private static long compared = 0;

    private final Random random;
    private final List<ToIntFunction<UnixDesk>> done = new ArrayList<>();
    private final Model m = new Model();
    private final String run;
    private UnixDesk object = new UnixDesk();
    private int calls = 0;

    private RandomRunsTest(int seed) {
        random = new Random(seed);
        run = "run " + seed + ": ";
    }

    /** The object, for one call. */
    private UnixDesk x() {
        if (calls == Story.CALL_LIMIT) {
            object = new UnixDesk();
            for (ToIntFunction<UnixDesk> call : done) call.applyAsInt(object);
            calls = done.size();
        }
        calls++;
        return object;
    }

    /** A call that changes something, with the model's answer. */
    private void does(String what, int due, ToIntFunction<UnixDesk> call) {
        Check.due(run + what, due, call.applyAsInt(x()));
        done.add(call);
    }

    private int pick(int... of) {
        return of[random.nextInt(of.length)];
    }

    private int argument(int call) {
        switch (call) {
            case 3: return random.nextInt(10) - 1;
            case 4: return pick(0, 1, 1, 2, 3, 5, 7, 7, 8, -1);
            case 5: return random.nextInt(8) - 1;
            case 11: case 12: case 13: return random.nextInt(12) == 0 ? pick(-1, 8) : random.nextInt(8);
            case 14: return pick(0, 1, 2, 3, 7, 40, 1000, 1001, -1);
            case 0: case 16: return random.nextInt();
            default: return random.nextInt(15) == 0 ? pick(-1, 6) : pick(0, 0, 0, 1, 1, 1, 2, 2, 3, 4, 5);
        }
    }

    private int secondArgument(int call) {
        switch (call) {
            case 11: return random.nextInt(4) == 0 ? random.nextInt(17) : pick(1, 2, 3, 6, 7, 7, 7, 11, 14, 15);
            case 17: return random.nextInt(19) - 1;
            default: return random.nextInt(10) - 1;
        }
    }

    private void callPhrase(List<int[]> code, int[] taste) {
        int call = taste[random.nextInt(taste.length)];
        if (random.nextInt(6) > 0) code.add(Code.set(0, argument(call)));
        if (random.nextInt(3) > 0) code.add(Code.set(1, secondArgument(call)));
        code.add(new int[] {8, random.nextInt(), call});
    }

    /** The same call several times: what a limit needs to be reached. */
    private void burst(List<int[]> code) {
        int call = pick(8, 8, 9, 11, 11, 7, 13);
        int again = code.size();
        code.add(Code.set(1, secondArgument(call)));
        for (int k = random.nextInt(5); k >= 0; k--) {
            code.add(Code.set(0, argument(call)));
            code.add(Code.call(call));
        }
        if (random.nextInt(3) == 0 && again < 24) code.add(Code.go(again));
    }

    private void forkPhrase(List<int[]> code) {
        code.add(Code.call(Code.FORK));
        code.add(Code.zero(0, Math.min(23, code.size() + random.nextInt(8))));
        if (random.nextInt(3) == 0) code.add(Code.call(pick(2, 3, 0, 14)));
    }

    private void phrase(List<int[]> code, int[] taste, boolean loops) {
        int kind = random.nextInt(16);
        if (kind < 8) {
            callPhrase(code, taste);
        } else if (kind == 8) {
            int address = random.nextInt(random.nextInt(3) > 0 ? 4 : 34);
            code.add(Code.set(2, random.nextInt(20) == 0 ? -1 : address));
            code.add(new int[] {pick(4, 5, 5), pick(1, 3), 2});
        } else if (kind == 9) {
            code.add(new int[] {pick(1, 2, 3), random.nextInt(4), random.nextInt(4)});
        } else if (kind == 10) {
            code.add(Code.zero(random.nextInt(4), random.nextInt(24)));
        } else if (kind < 13) {
            forkPhrase(code);
        } else if (kind < 15) {
            burst(code);
        } else if (loops) {
            code.add(new int[] {6, random.nextInt(), random.nextInt(24)});
        }
    }

    /** Opens name after name and fills each file. */
    private int[][] filler() {
        return Code.join(
            Code.move(0, 3), Code.set(1, pick(3, 6, 7, 7, 14, 15)), Code.call(Code.OPEN), Code.move(2, 0),
            Code.move(0, 2), Code.set(1, random.nextInt()), Code.call(Code.WRITE), Code.zero(0, 12), Code.go(6),
            Code.move(0, 2), Code.call(pick(Code.CLOSE, Code.CLOSE, Code.DUP, Code.COMMIT, Code.FORK)),
            Code.set(1, 1), Code.add(3, 1), Code.go(0));
    }

    /** A writer and a reader that takes some words, sleeps and ends, or the other way around. */
    private int[][] talkers() {
        boolean swap = random.nextBoolean();
        return Code.join(
            Code.call(Code.PIPE), Code.call(Code.FORK), swap ? Code.zero(0, 10) : Code.zero(0, 3),
            Code.call(Code.CLOSE, swap ? 0 : 1), Code.call(pick(Code.FORK, Code.PID, Code.SLEEP)),
            Code.set(0, swap ? 1 : 0), Code.call(swap ? Code.WRITE : Code.READ), Code.go(6),
            Code.call(Code.CLOSE, swap ? 1 : 0), Code.call(swap ? Code.READ : Code.WRITE, swap ? 0 : 1, 5),
            Code.call(Code.SLEEP, random.nextInt(40)), Code.call(swap ? Code.READ : Code.WRITE, swap ? 0 : 1));
    }

    /** Processes that share many pages, write to some of them, and begin other programs. */
    private int[][] sharers() {
        return Code.join(
            Code.call(Code.GROW, pick(3, 5, 6, 7)), Code.set(2, random.nextInt(5)), Code.call(Code.FORK),
            Code.call(Code.FORK), Code.store(pick(1, 2, 3), 2), Code.set(1, 4), Code.add(2, 1), Code.set(3, 31),
            Code.less(3, 2), Code.zero(3, pick(2, 4, 5)), Code.call(Code.FORK),
            Code.call(pick(Code.EXEC, Code.SLEEP, Code.WAIT, Code.GROW), random.nextInt(6)));
    }

    /** One file with several names, at several places. */
    private int[][] namer() {
        int k = random.nextInt(8);
        return Code.join(
            Code.call(Code.OPEN, k, pick(7, 7, 15, 11)), Code.call(Code.WRITE, 0, 9), Code.call(Code.WRITE, 0),
            Code.call(Code.SEEK, 0, random.nextInt(4)), Code.call(Code.READ, 0),
            Code.call(Code.LINK, k, random.nextInt(8)), Code.call(pick(Code.UNLINK, Code.LINK), k),
            Code.call(pick(Code.COMMIT, Code.FORK, Code.DUP, Code.CLOSE)), Code.go(pick(0, 3, 6, 11)));
    }

    private List<int[]> template() {
        int[][][] all = {filler(), talkers(), sharers(), namer()};
        List<int[]> code = new ArrayList<>(List.of(all[random.nextInt(all.length)]));
        for (int k = pick(0, 0, 1, 2, 4); k > 0; k--) {
            List<int[]> other = new ArrayList<>();
            callPhrase(other, TASTES[random.nextInt(TASTES.length)]);
            code.set(random.nextInt(code.size()), other.get(random.nextInt(other.size())));
        }
        return code;
    }

    private List<int[]> freeProgram() {
        List<int[]> code = new ArrayList<>();
        int[] taste = TASTES[random.nextInt(TASTES.length)];
        boolean loops = random.nextInt(3) > 0;
        int length = pick(0, 3, 8, 16, 22, 22, 22, 25);
        while (code.size() < length) phrase(code, taste, loops);
        if (loops) code.add(Code.go(random.nextInt(4)));
        return code;
    }

    private void writeProgram(int program) {
        does("clear", m.clear(program), x -> x.clear(program));
        List<int[]> code = random.nextBoolean() ? template() : freeProgram();
        for (int[] c : code) {
            does("add", m.add(program, c[0], c[1], c[2]), x -> x.add(program, c[0], c[1], c[2]));
        }
    }

    private void same(String call, int a, int b, int want, int got) {
        // The text is made only for a wrong answer: there are very many right ones.
        if (want != got) Check.due(run + call + " of " + a + ", " + b, want, got);
        compared++;
    }

    private void compareProcess(int pid) {
        for (int what = -1; what < 15; what++) {
            same("process", pid, what, m.process(pid, what), x().process(pid, what));
        }
        for (int address = -1; address < 33; address++) {
            same("memory", pid, address, m.memory(pid, address), x().memory(pid, address));
        }
        for (int page = -1; page < 9; page++) {
            same("sharing", pid, page, m.sharing(pid, page), x().sharing(pid, page));
        }
        for (int d = -1; d < 7; d++) {
            for (int what = -1; what < 5; what++) {
                same("descriptor", 10 * pid + d, what, m.descriptor(pid, d, what), x().descriptor(pid, d, what));
            }
        }
    }

    private void compareFiles() {
        for (int k = -1; k < 9; k++) {
            same("name", k, 0, m.name(k), x().name(k));
            for (int what = -1; what < 4; what++) same("file", k, what, m.file(k, what), x().file(k, what));
            for (int w = -1; w < 17; w++) same("word", k, w, m.word(k, w), x().word(k, w));
        }
    }

    private void compare() {
        for (int what = -1; what < 12; what++) same("total", what, 0, m.total(what), x().total(what));
        for (int k = -1; k < 17; k++) same("said", k, 0, m.said(k), x().said(k));
        compareFiles();
        int greatest = m.total(10);
        for (int pid = -1; pid < 3; pid++) compareProcess(pid);
        for (int pid = Math.max(3, greatest - 12); pid <= greatest + 1; pid++) compareProcess(pid);
    }

    private void stop() {
        if (random.nextInt(3) == 0) compare();
    }

    private void go() {
        for (int boot = 0; boot < 4 && done.size() < DONE_LIMIT; boot++) {
            for (int program = 0; program < 6 && done.size() < DONE_LIMIT; program++) {
                if (boot == 0 || random.nextInt(3) == 0) writeProgram(program);
            }
            int program = random.nextInt(20) == 0 ? pick(-1, 6) : random.nextInt(6);
            does("boot", m.boot(program) ? 1 : 0, x -> x.boot(program) ? 1 : 0);
            stop();
            int stops = random.nextInt(14);
            for (int k = 0; k < stops; k++) {
                int n = random.nextInt(25) == 0 ? pick(-1, 0, 201) : pick(1, 1, 2, 3, 5, 8, 30, 200);
                does("run(" + n + ")", m.run(n), x -> x.run(n));
                stop();
            }
            int last = boot;
            does("add", m.add(last, 0, 0, 0), x -> x.add(last, 0, 0, 0));
            if (m.total(0) > 0 || random.nextInt(3) == 0) {
                does("crash", m.crash(), UnixDesk::crash);
                stop();
            }
        }
        compare();
        Check.due(run + "calls are left", true, done.size() < Story.CALL_LIMIT - 50);
    }

    public static void main(String[] args) {
        Map<String, Integer> seen = new TreeMap<>();
        for (int seed = 0; seed < RUNS; seed++) {
            RandomRunsTest test = new RandomRunsTest(seed);
            test.go();
            test.m.seen.forEach((event, count) -> seen.merge(event, count, Integer::sum));
        }
        for (int call = 0; call < 19; call++) {
            if (call != 0) Check.due("call " + call + " is done", true, seen.containsKey("call " + call + " is done"));
        }
        for (String event : RARE) Check.due("reached: " + event, true, seen.getOrDefault(event, 0) > 10);
        if (args.length > 0) System.out.println(seen);
        System.out.println(compared + " answers compared with the model's");
        Check.finish();
    }
}
