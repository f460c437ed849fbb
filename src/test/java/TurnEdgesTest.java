/** The edges of whose step is next, of TIME and its skips, and of run. */
public final class TurnEdgesTest {
    private static final int MIN = Edge.MIN, MAX = Edge.MAX, BAD = Edge.BAD;
    private static final int[][] SLEEPING = Code.call(Code.SLEEP, 1000);

    /** The next steps are of these processes. */
    private static void order(String what, Story story, int... pids) {
        UnixDesk x = story.told();
        for (int k = 0; k < pids.length; k++) {
            Check.due(what + ": run(1)", 1, x.run(1));
            Check.due(what + ": pid of step " + k, pids[k], x.total(9));
        }
    }

    private static void fiveSteps() {
        Check.sentence("The next step is of the same process as the one before, if it is READY and did less than 5 since it was "
            + "chosen");
        Story two = Story.boot(Code.call(Code.FORK), Code.go(1));
        order("two that go on", two, 1, 1, 1, 1, 1, 2, 2, 2, 2, 2, 1, 1, 1, 1, 1, 2);
        // The same in runs of any length: what is chosen outlasts a run.
        for (int n = 1; n <= 12; n++) {
            UnixDesk x = two.told();
            for (int done = n; done <= 60; done += n) {
                Check.due("run", n, x.run(n));
                Check.due("steps of process 1 of " + done, done / 10 * 5 + Math.min(done % 10, 5), x.process(1, 7));
            }
        }
        // The step that is BLOCKED is the first to the fifth since process 1 was chosen: the next one is of process 2.
        for (int before = 0; before <= 4; before++) {
            int[][] code = {Code.call(Code.FORK), Code.zero(0, 11)};
            for (int k = 0; k < 3 + before; k++) code = Code.join(code, Code.set(0, 0));
            while (code.length < 10) code = Code.join(code, Code.call(Code.WAIT));
            Story story = Story.boot(code, Code.go(10), Code.go(11)).run(10);
            Check.due("each did five", 5, story.told().process(1, 7));
            int[] pids = new int[before + 8];
            for (int k = 0; k < pids.length; k++) pids[k] = k <= before ? 1 : 2;
            order(before + " steps, then WAIT", story, pids);
        }
    }

    /** Process 2 sleeps, process 1 goes on alone: when 2 is READY, it has its turn when the five of process 1 are done. */
    private static void chosenAgain() {
        Check.sentence("else of the next slot behind it (the first one behind the last; from slot 7 at first) with a READY process, "
            + "which is chosen then.");
        for (int length = 1; length <= 21; length++) {
            Story story = Story.boot(Code.call(Code.FORK), Code.zero(0, 3), Code.go(2), Code.call(Code.SLEEP, length), Code.go(5))
                .run(8);
            Check.due("BLOCKED at TIME 8", 2, story.told().process(2, 0));
            int alone = (length + 4) / 5 * 5;
            int[] pids = new int[alone + 6];
            for (int k = 0; k < pids.length; k++) pids[k] = k < alone || k == alone + 5 ? 1 : 2;
            order("SLEEP " + length, story, pids);
        }
    }

    private static void slots() {
        Check.sentence("the first one behind the last");
        Story eight = Story.boot(Code.call(Code.FORK), Code.call(Code.FORK), Code.call(Code.FORK), Code.go(3)).run(200);
        UnixDesk x = eight.told();
        Check.due("eight", 8, x.total(0));
        Check.due("five steps each", 0, x.total(5) % 5);
        int slot = x.process(x.total(9), 6);
        for (int turn = 1; turn <= 17; turn++) {
            Check.due("run", 5, x.run(5));
            Check.due("slot of turn " + turn, (slot + turn) % 8, x.process(x.total(9), 6));
        }
        // Process 9 has slot 7, and only 1 and 9 are READY: behind slot 7 comes slot 0.
        Story two = Story.eight(SLEEPING, Code.call(Code.KILL, 8), Code.call(Code.WAIT), Code.call(Code.FORK), Code.go(16))
            .until(9, 16);
        Check.due("slot of 9", 7, two.told().process(9, 6));
        x = two.told();
        for (int k = 0; k < 5 && x.total(9) == 1; k++) x.run(1);
        Check.due("the first step of 9", 1, x.process(9, 7));
        for (int turn = 0; turn < 5; turn++) {
            Check.due("run", turn == 0 ? 4 : 5, x.run(turn == 0 ? 4 : 5));
            Check.due("pid of turn " + turn, turn % 2 == 0 ? 9 : 1, x.total(9));
            Check.due("steps of 9", 5 * (turn / 2 + 1), x.process(9, 7));
        }
        Check.sentence("from slot 7 at first");
        Story boot = Story.boot(Code.go(0));
        order("slot 0", boot, 1, 1, 1, 1, 1, 1);
        Check.sentence("slot 7 is the one before: true.");
        // However many steps a process in slot 0 or 1 did since it was chosen: behind a boot there are five again.
        for (int steps = 2; steps <= 12; steps++) {
            Story crashed = Story.boot(Code.call(Code.FORK), Code.go(1)).run(steps).crash(2).boot(0);
            order("behind " + steps + " steps and a crash", crashed, 1, 1, 1, 1, 1, 2, 2, 2, 2, 2, 1);
        }
        for (int steps = 1; steps <= 7; steps++) {
            int[][] code = {};
            for (int k = 1; k < steps; k++) code = Code.join(code, Code.set(0, 0));
            Story ended = Story.begin().program(1, Code.call(Code.FORK), Code.go(1)).program(0, (Object) code).boot(0)
                .run(200, steps).boot(1);
            order("behind an end with " + steps + " steps", ended, 1, 1, 1, 1, 1, 2, 2, 2, 2, 2, 1);
        }
    }

    /** Processes 2, 3 and 4 sleep, are ZOMBIES or spin; the turn goes from 1 over those that are not READY. */
    private static void passedOver() {
        Check.sentence("with a READY process");
        Story story = Story.boot(Code.call(Code.FORK), Code.zero(0, 9), Code.call(Code.FORK), Code.zero(0, 11),
            Code.call(Code.FORK), Code.zero(0, 8), Code.go(6), Code.go(7), Code.go(8), SLEEPING, Code.call(Code.EXIT))
            .run(5 + 3 + 2 + 5);
        Check.due("2 sleeps", 2, story.told().process(2, 0));
        Check.due("3 is a ZOMBIE", 3, story.told().process(3, 0));
        order("1 and 4", story, 1, 1, 1, 1, 1, 4, 4, 4, 4, 4, 1, 1, 1, 1, 1, 4);
    }

    private static void skips() {
        Check.sentence("If there is none, TIME skips to the least at which a sleeping one is READY, if there is one.");
        // Process 1 sleeps at TIME 4, process 2 at TIME 7.
        int[][] lengths = {{50, 20}, {20, 50}, {10, 7}, {9, 7}, {11, 7}, {1000, 1000}, {5, 1}};
        for (int[] l : lengths) {
            Story both = Story.boot(Code.call(Code.FORK), Code.zero(0, 5), Code.call(Code.SLEEP, l[0]), Code.go(4),
                Code.call(Code.SLEEP, l[1]), Code.go(7)).run(7);
            int first = 4 + l[0];
            int second = 7 + l[1];
            UnixDesk x = both.run(1).told();
            Check.due("TIME", Math.min(first, second) + 1, x.total(5));
            // If both are READY then, it is process 2, of the step before, that goes on.
            Check.due("whose step", second <= first ? 2 : 1, x.total(9));
            Check.due("the other one", Math.abs(first - second) <= 1 ? 1 : 2, x.process(second <= first ? 1 : 2, 0));
        }
        // One of them is READY: no skip.
        Story ready = Story.boot(Code.call(Code.FORK), Code.zero(0, 5), Code.call(Code.SLEEP, 500), Code.go(4), Code.go(5));
        Check.due("TIME", 200, ready.run(200).told().total(5));
        // A ZOMBIE that was KILLED in its SLEEP sleeps no more.
        Story zombie = Story.boot(Code.call(Code.FORK), Code.zero(0, 9), Code.call(Code.SLEEP, 20), Code.call(Code.KILL, 2),
            Code.call(Code.PIPE), Code.set(0, 0), Code.call(Code.READ), SLEEPING).until(1, 8);
        Check.due("2 is a ZOMBIE", 3, zombie.told().process(2, 0));
        Edge.blocks("READ", zombie, 1);
        Edge.unchanged("no skip to a ZOMBIE", zombie.run(1), zombie.run(1).run(200, 0));
        // Those that slept before a crash are no more: TIME does not skip to when they would be READY.
        Story crashed = Story.eight(SLEEPING).crash(8);
        int time = crashed.told().total(5);
        Story alone = crashed.clear(0, 12).program(0, Code.call(Code.PIPE), Code.set(0, 0), Code.call(Code.READ)).boot(0)
            .run(200, 3);
        Check.due("no skip", time + 3, alone.told().total(5));
        Edge.unchanged("no step", alone, alone.run(200, 0));
        Check.sentence("run: TIME skips only when a further one of the n steps is to be done, not behind the n-th; a skip is no step.");
        Story one = Story.boot(Code.set(0, 9), Code.call(Code.SLEEP), Code.set(0, 0), Code.go(0));
        Check.due("behind the n-th", 2, one.run(2).told().total(5));
        Check.due("a further one", 12, one.run(3).told().total(5));
        Check.due("a further run", 12, one.run(2).run(1).told().total(5));
        Edge.unchanged("one run or two", one.run(2).run(1), one.run(3));
        Check.due("five rounds", 5 * 14, one.run(25).told().total(5));
        Check.due("five rounds and the next block", 5 * 14 + 2, one.run(27).told().total(5));
        Check.due("steps", 27, one.run(27).told().process(1, 7));
    }

    private static void numbers() {
        Check.sentence("Does up to n (1..200) steps, while there are READY or sleeping processes: how many. BAD for another n");
        Story loop = Story.boot(Code.go(0));
        for (int n : new int[] {0, -1, 201, MIN, MAX}) {
            Edge.unchanged("run(" + n + ")", loop, loop.run(n, BAD));
            Edge.unchanged("run(" + n + ")", Story.begin(), Story.begin().run(n, BAD));
        }
        for (int n : new int[] {1, 2, 199, 200}) {
            Look due = Look.at(loop).but(Look.total(5), n).but(Look.total(9), 1).but(Look.process(1, 7), n);
            due.due("run(" + n + ")", loop.run(n));
            Edge.unchanged("run(" + n + ") without a process", Story.begin(), Story.begin().run(n, 0));
        }
        Story ending = Story.boot(Code.set(0, 1), Code.set(0, 2));
        Check.due("at the last step", 1, ending.run(2).told().total(0));
        Check.due("the end is a step", 0, ending.run(3).told().total(0));
        Check.due("and the last one", 0, ending.run(4, 3).told().total(0));
        Edge.unchanged("no process", ending.run(200, 3), ending.run(200, 3).run(200, 0));
        // BLOCKED, and none that could end that.
        Story reader = Story.boot(Code.call(Code.PIPE), Code.set(0, 0), Code.call(Code.READ)).run(200, 3);
        Edge.unchanged("BLOCKED in READ", reader, reader.run(200, 0));
        Story writer = Story.boot(Code.call(Code.PIPE), Code.set(0, 1), Code.call(Code.WRITE), Code.go(1)).run(200, 1 + 4 * 3 + 2);
        Edge.unchanged("BLOCKED in WRITE", writer, writer.run(200, 0));
        Story both = Story.child(Code.call(Code.PIPE), Code.set(0, 0), Code.call(Code.READ)).run(200, 3);
        Edge.unchanged("BLOCKED in WAIT and READ", both, both.run(200, 0));
    }

    /**
     * Not to be reached in 512 calls, but told by the document all the same. TIME comes near to the limit by many a
     * SLEEP, and to the limit itself by single steps.
     */
    private static void timeLimit() {
        Check.sentence("or if TIME is above 1000000000");
        int limit = 1000000000;
        UnixDesk x = Story.begin().program(0, Code.set(0, 1000), Code.call(Code.SLEEP), Code.go(0)).program(1, Code.go(0))
            .boot(0).told();
        for (int calls = 0; calls < 30000 && x.total(5) < limit - 60000; calls++) x.run(200);
        for (int calls = 0; calls < 30000 && x.total(5) < limit - 1100; calls++) x.run(1);
        x.crash();
        Check.due("boot", true, x.boot(1));
        for (int calls = 0; calls < 2000 && x.total(5) < limit; calls++) x.run(1);
        Check.due("TIME", limit, x.total(5));
        Check.due("run at the limit", 1, x.run(1));
        Check.due("TIME", limit + 1, x.total(5));
        Check.due("run above the limit", BAD, x.run(1));
        Check.due("run above the limit", BAD, x.run(200));
        Check.due("TIME stays", limit + 1, x.total(5));
        Check.due("steps stay", 1, x.process(1, 0));
        x.crash();
        Check.due("run without a process", BAD, x.run(1));
    }

    public static void main(String[] args) {
        fiveSteps();
        chosenAgain();
        slots();
        passedOver();
        skips();
        numbers();
        timeLimit();
        Check.finish();
    }
}
