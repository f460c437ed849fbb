/** Promise 5: how many steps, whose, and TIME. */
public final class RunTest {
    private static void numberOfSteps() {
        UnixDesk x = Code.booted(Code.go(0));
        int[] bad = {0, -1, 201, Integer.MIN_VALUE, Integer.MAX_VALUE};
        for (int n : bad) {
            Check.due("run " + n, UnixDesk.BAD, x.run(n));
        }
        Check.due("no step was done", 0, x.total(5));
        Check.due("run 1", 1, x.run(1));
        Check.due("run 200", 200, x.run(200));
        Check.due("TIME", 201, x.total(5));
        Check.due("steps of the process", 201, x.process(1, 7));
        x.crash();
        Check.due("run with no process", 0, x.run(200));
        Check.due("run 0 with no process", UnixDesk.BAD, x.run(0));
    }

    private static void order(String what, UnixDesk x, int... pids) {
        for (int k = 0; k < pids.length; k++) {
            Check.due(what + ": run", 1, x.run(1));
            Check.due(what + ": pid of step " + k, pids[k], x.total(9));
        }
    }

    private static void fiveStepsEach() {
        UnixDesk x = Code.booted(Code.call(Code.FORK), Code.call(Code.FORK), Code.go(2));
        order("round", x, 1, 1, 1, 1, 1, 2, 2, 2, 2, 2, 3, 3, 3, 3, 3, 4, 4, 4, 4, 4, 1, 1, 1, 1, 1, 2);
        UnixDesk alone = Code.booted(Code.go(0));
        Check.due("one alone goes on", 12, alone.run(12));
        Check.due("its steps", 12, alone.process(1, 7));
    }

    /** The process in slot 1 ends, its slot is taken again, and the turn goes by slots, not by pids. */
    private static void turnsGoBySlots() {
        UnixDesk x = Code.booted(
            Code.call(Code.FORK), Code.zero(0, 9), Code.call(Code.FORK), Code.zero(0, 8),
            Code.call(Code.WAIT), Code.call(Code.FORK), Code.go(6), Code.go(6), Code.go(8), Code.call(Code.EXIT));
        order("slots", x, 1, 1, 1, 1, 1, 2, 2, 3, 3, 3, 3, 3, 1, 1, 1, 1, 1, 4, 4, 4, 4, 4, 3, 3, 3, 3, 3, 1);
        Check.due("pid 4 has slot 1", 1, x.process(4, 6));
        Check.due("pid 3 has slot 2", 2, x.process(3, 6));
    }

    /** Behind slot 7 comes slot 0; a process that is blocked is passed over. */
    private static void allSlots() {
        UnixDesk x = Code.booted(
            Code.call(Code.FORK), Code.call(Code.FORK), Code.call(Code.FORK), Code.call(Code.FORK), Code.go(4));
        Check.due("run", 200, x.run(200));
        Check.due("eight processes", 8, x.total(0));
        int before = x.total(9);
        for (int k = 0; k < 16; k++) {
            Check.due("run", 5, x.run(5));
            int slot = (x.process(before, 6) + 1) % 8;
            before = x.total(9);
            Check.due("next slot", slot, x.process(before, 6));
        }
    }

    /** A blocked step counts among the five, and the turn goes on behind it at once. */
    private static void blockedOnesArePassedOver() {
        UnixDesk x = Code.booted(
            Code.call(Code.FORK), Code.zero(0, 4), Code.call(Code.WAIT), Code.go(3),
            Code.set(2, 1), Code.set(2, 1), Code.set(2, 1), Code.set(2, 1), Code.set(2, 1), Code.call(Code.EXIT));
        order("wait", x, 1, 1, 1, 2, 2, 2, 2, 2, 2, 2, 1, 1, 1, 1, 1, 1);
        UnixDesk y = Code.booted(
            Code.call(Code.FORK), Code.zero(0, 4), Code.call(Code.WAIT), Code.go(3), Code.go(4));
        Check.due("run", 30, y.run(30));
        Check.due("three steps before the block", 3, y.process(1, 7));
        Check.due("the others", 27, y.process(2, 7));
    }

    private static void skips() {
        UnixDesk x = Code.booted(Code.call(Code.SLEEP, 100), Code.go(2));
        Check.due("SET and the blocked SLEEP", 2, x.run(2));
        Check.due("no skip behind the last step", 2, x.total(5));
        Check.due("BLOCKED", 2, x.process(1, 0));
        Check.due("run", 1, x.run(1));
        Check.due("skipped, then one step", 103, x.total(5));
        Check.due("SLEEP gave 0", 0, x.process(1, 10));
        Check.due("three steps", 3, x.process(1, 7));

        UnixDesk two = Code.booted(
            Code.call(Code.FORK), Code.zero(0, 4), Code.call(Code.SLEEP, 50), Code.call(Code.SLEEP, 20));
        Check.due("both sleep", 7, two.run(7));
        Check.due("TIME", 7, two.total(5));
        Check.due("one step more", 1, two.run(1));
        // Process 1 slept at TIME 4 until 54; process 2 at TIME 7 until 27.
        Check.due("skips to the least", 28, two.total(5));
        Check.due("which is of process 2", 2, two.total(9));
        Check.due("process 1 sleeps on", 2, two.process(1, 0));
    }

    /** Both wake at one TIME: the one that did the latest step goes on, as its five are not over. */
    private static void sameProcessGoesOnBehindASkip() {
        UnixDesk x = Code.booted(
            Code.call(Code.FORK), Code.zero(0, 5), Code.call(Code.SLEEP, 13), Code.go(4), Code.call(Code.SLEEP, 10));
        Check.due("both sleep", 7, x.run(7));
        // Process 1 slept at TIME 4, process 2 at TIME 7: both until 17.
        order("behind the skip", x, 2, 2, 1);
        Check.due("TIME", 20, x.total(5));
    }

    private static void noSkipWhileOneIsReady() {
        UnixDesk x = Code.booted(
            Code.call(Code.FORK), Code.zero(0, 5), Code.call(Code.SLEEP, 10), Code.go(4), Code.go(5));
        Check.due("run", 13, x.run(13));
        Check.due("TIME", 13, x.total(5));
        Check.due("sleeps until 14", 2, x.process(1, 0));
        Check.due("run", 1, x.run(1));
        Check.due("READY by the steps of another", 1, x.process(1, 0));
        Check.due("TIME", 14, x.total(5));
    }

    private static void ends() {
        UnixDesk x = Code.booted(Code.call(Code.PIPE), Code.set(0, 0), Code.call(Code.READ));
        Check.due("blocked for ever", 3, x.run(200));
        Check.due("no more steps", 0, x.run(200));
        Check.due("BLOCKED", 2, x.process(1, 0));
        Check.due("TIME", 3, x.total(5));
    }

    public static void main(String[] args) {
        numberOfSteps();
        fiveStepsEach();
        turnsGoBySlots();
        allSlots();
        blockedOnesArePassedOver();
        skips();
        sameProcessGoesOnBehindASkip();
        noSkipWhileOneIsReady();
        ends();
        Check.finish();
    }
}
