/** Promise 7, with the instructions and the calls EXIT, FORK, WAIT, KILL, EXEC, SLEEP, PID, and their part of promise 16. */
public final class ProcessTest {
    private static final int BAD = UnixDesk.BAD;

    private static void state(String what, UnixDesk x, int pid, int... due) {
        for (int k = 0; k < due.length; k++) {
            Check.due(what + ": process(" + pid + ", " + k + ")", due[k], x.process(pid, k));
        }
    }

    private static void registers(String what, UnixDesk x, int pid, int... due) {
        for (int k = 0; k < due.length; k++) {
            Check.due(what + ": register " + k + " of " + pid, due[k], x.process(pid, 10 + k));
        }
    }

    private static void questions() {
        UnixDesk x = Code.booted(Code.go(0));
        int[] whats = {-1, 9, 14, 15, Integer.MIN_VALUE, Integer.MAX_VALUE};
        for (int what : whats) {
            Check.due("process(1, " + what + ")", BAD, x.process(1, what));
        }
        int[] pids = {0, -1, 2, 8, Integer.MIN_VALUE, Integer.MAX_VALUE};
        for (int pid : pids) {
            Check.due("process(" + pid + ", 0)", BAD, x.process(pid, 0));
            Check.due("process(" + pid + ", 10)", BAD, x.process(pid, 10));
        }
    }

    private static void instructions() {
        UnixDesk x = Code.after(8,
            Code.set(0, 2000000000), Code.set(1, 1500000000), Code.add(0, 1), Code.set(2, 4), Code.sub(2, 1),
            Code.less(1, 2), Code.set(3, -1), Code.less(3, 1));
        registers("arithmetic", x, 1, 2000000000 + 1500000000, 0, 4 - 1500000000, 1);
        UnixDesk wrap = Code.after(3, Code.set(0, Integer.MIN_VALUE), Code.set(1, 1), Code.sub(0, 1));
        registers("wraps", wrap, 1, Integer.MAX_VALUE, 1, 0, 0);
        UnixDesk least = Code.after(4, Code.set(0, Integer.MIN_VALUE), Code.set(1, Integer.MAX_VALUE), Code.less(0, 1),
            Code.less(1, 1));
        registers("less", least, 1, 1, 0, 0, 0);
        UnixDesk same = Code.after(4, Code.set(2, 9), Code.add(2, 2), Code.set(1, 3), Code.sub(1, 1));
        registers("a register with itself", same, 1, 0, 0, 18, 0);
        UnixDesk y = Code.after(3, Code.zero(1, 2), Code.call(Code.EXIT), Code.set(1, 5), Code.zero(1, 0), Code.go(9));
        Check.due("ZERO goes on behind it if it is not 0", 4, y.process(1, 3));
        Check.due("run", 1, y.run(1));
        Check.due("GO behind the program", 9, y.process(1, 3));
        Check.due("steps", 4, y.process(1, 7));
        Check.due("EXIT there", 1, y.run(9));
    }

    private static void forks() {
        UnixDesk x = Code.after(5, Code.set(0, 6), Code.set(1, 7), Code.set(2, 8), Code.set(3, 9), Code.call(Code.FORK));
        state("parent", x, 1, 1, 0, 0, 5, 1, 0, 0, 5, 0);
        registers("parent", x, 1, 2, 7, 8, 9);
        state("child", x, 2, 1, 1, 0, 5, 1, 0, 1, 0, 0);
        registers("child", x, 2, 0, 7, 8, 9);
    }

    private static void forkKeepsProgram() {
        UnixDesk x = new UnixDesk();
        Code.program(x, 3, Code.call(Code.FORK), Code.go(1));
        Check.due("boot", true, x.boot(3));
        Check.due("run", 1, x.run(1));
        state("child of program 3", x, 2, 1, 1, 3, 1, 1, 0, 1, 0, 0);
    }

    /** Of an earlier process in its slot a new one has nothing: no status, no counts, no SLEEP. */
    private static void slotIsUsedAgain() {
        UnixDesk x = Code.booted(
            Code.call(Code.FORK), Code.zero(0, 6), Code.call(Code.WAIT), Code.call(Code.FORK), Code.zero(0, 12),
            Code.go(5), Code.store(1, 1), Code.set(0, 9), Code.call(Code.EXIT));
        Check.due("run", 7, x.run(7));
        state("first child", x, 2, 3, 1, 0, 9, 0, 9, 1, 4, 1);
        Check.due("run", 2, x.run(2));
        state("second child", x, 3, 1, 1, 0, 4, 1, 0, 1, 0, 0);

        UnixDesk y = Code.booted(
            Code.call(Code.FORK), Code.zero(0, 9), Code.call(Code.SLEEP, 5), Code.call(Code.KILL, 2), Code.call(Code.WAIT),
            Code.call(Code.FORK), Code.zero(0, 9), Code.call(Code.SLEEP, 7), Code.go(11));
        Check.due("run", 12, y.run(12));
        Check.due("the new one", 3, y.total(10));
        Check.due("in the slot of the old one", 1, y.process(3, 6));
        Check.due("run", 200, y.run(200));
        Check.due("SLEEP took two steps", 11, y.process(3, 3));
    }

    /** Process 1 is gone, and a child of process 2 has its slot 0. */
    private static void childInSlotZero() {
        UnixDesk x = Code.booted(
            Code.call(Code.FORK), Code.zero(0, 3), Code.call(Code.EXIT), Code.call(Code.FORK), Code.zero(0, 7),
            Code.call(Code.WAIT), Code.go(6), Code.set(0, 12), Code.call(Code.EXIT));
        Check.due("run", 3 + 4, x.run(7));
        Check.due("slot", 0, x.process(3, 6));
        Check.due("WAIT is blocked", 2, x.process(2, 0));
        Check.due("run", 3 + 1, x.run(4));
        registers("WAIT", x, 2, 3, 12, 0, 0);
    }

    private static void notWithEight() {
        UnixDesk x = Code.booted(Code.call(Code.FORK), Code.zero(0, 3), Code.go(0), Code.go(3));
        Check.due("run", 200, x.run(200));
        Check.due("eight", 8, x.total(0));
        Check.due("no pid is used up", 8, x.total(10));
        for (int pid = 1; pid <= 8; pid++) {
            Check.due("slot of " + pid, pid - 1, x.process(pid, 6));
        }
        UnixDesk z = Code.booted(Code.call(Code.FORK), Code.zero(0, 4), Code.call(Code.SAY), Code.go(0),
            Code.call(Code.EXIT));
        Check.due("run", 100, z.run(100));
        Check.due("ZOMBIES count", 8, z.total(0));
        Check.due("FORK fails", -1, z.said(0));
        Check.due("a ZOMBIE keeps its slot", 4, z.process(5, 6));
    }

    private static void exits() {
        UnixDesk x = Code.booted(Code.call(Code.FORK), Code.zero(0, 3), Code.go(2), Code.set(2, 4),
            Code.call(Code.EXIT, -77));
        Check.due("run", 9, x.run(9));
        state("ZOMBIE by EXIT", x, 2, 3, 1, 0, 6, 0, -77, 1, 4, 0);
        registers("ZOMBIE by EXIT", x, 2, -77, 0, 4, 0);
        UnixDesk y = Code.booted(Code.call(Code.FORK), Code.zero(0, 22), Code.go(2));
        Check.due("run", 7, y.run(7));
        state("ZOMBIE behind the last", y, 2, 3, 1, 0, 22, 0, 0, 1, 2, 0);
        UnixDesk alone = Code.booted(Code.set(0, 5), Code.call(Code.EXIT));
        Check.due("with no parent it is no more", 2, alone.run(9));
        Check.due("process", BAD, alone.process(1, 0));
    }

    private static void badAddressKills() {
        int[] addresses = {4, -1, 32, Integer.MIN_VALUE, Integer.MAX_VALUE};
        for (int address : addresses) {
            for (int op = 4; op <= 5; op++) {
                int[] access = {op, 3, 2};
                UnixDesk x = Code.booted(Code.set(2, address), Code.call(Code.FORK), Code.zero(0, 4), Code.go(3),
                    Code.set(3, 6), access, Code.go(6));
                Check.due("run", 8, x.run(8));
                state("killed at " + address, x, 2, 3, 1, 0, 6, 0, -1, 1, 3, 0);
                registers("killed at " + address, x, 2, 0, 0, address, 6);
            }
        }
    }

    private static void waits() {
        UnixDesk x = Code.after(3, Code.set(1, 5), Code.call(Code.WAIT), Code.go(2));
        registers("parent of none", x, 1, -1, 5, 0, 0);
        // Process 2 ends behind process 3; both wait for process 1, which takes the least pid first.
        UnixDesk y = Code.booted(
            Code.call(Code.FORK), Code.zero(0, 11), Code.call(Code.FORK), Code.zero(0, 14),
            Code.call(Code.SLEEP, 60), Code.call(Code.WAIT), Code.set(2, 0), Code.add(2, 1), Code.call(Code.WAIT),
            Code.go(10), Code.call(Code.SLEEP, 20), Code.call(Code.EXIT), Code.call(Code.EXIT, 33));
        Check.due("run", 12, y.run(12));
        Check.due("pid 3 is a ZOMBIE", 3, y.process(3, 0));
        Check.due("pid 2 sleeps", 2, y.process(2, 0));
        Check.due("run", 4, y.run(4));
        registers("the least pid", y, 1, 2, 0, 0, 0);
        Check.due("pid 2 is no more", BAD, y.process(2, 0));
        Check.due("pid 3 is yet", 33, y.process(3, 5));
        Check.due("run", 3, y.run(3));
        registers("the next one", y, 1, 3, 33, 0, 0);
        Check.due("one process", 1, y.total(0));
    }

    private static void blockedWait() {
        UnixDesk x = Code.booted(Code.call(Code.FORK), Code.zero(0, 5), Code.set(1, 44), Code.call(Code.WAIT), Code.go(4),
            Code.set(2, 1), Code.call(Code.EXIT, 9));
        Check.due("run", 4, x.run(4));
        state("blocked", x, 1, 2, 0, 0, 3, 1, 0, 0, 4, 0);
        registers("a blocked call changes nothing", x, 1, 2, 44, 0, 0);
        Check.due("run", 3, x.run(3));
        Check.due("BLOCKED yet", 2, x.process(1, 0));
        Check.due("run", 1, x.run(1));
        Check.due("READY again", 1, x.process(1, 0));
        Check.due("at the call", 3, x.process(1, 3));
        Check.due("ZOMBIE", 3, x.process(2, 0));
        Check.due("run", 1, x.run(1));
        registers("done", x, 1, 2, 9, 0, 0);
        Check.due("five steps", 5, x.process(1, 7));
        Check.due("no more", BAD, x.process(2, 0));
    }

    private static void kills() {
        int[] none = {0, -1, 2, 9, Integer.MIN_VALUE};
        for (int pid : none) {
            UnixDesk x = Code.after(2, Code.call(Code.KILL, pid), Code.go(2));
            Check.due("KILL " + pid, -1, x.process(1, 10));
            Check.due("goes on", 1, x.process(1, 0));
        }
        UnixDesk x = Code.booted(Code.call(Code.FORK), Code.zero(0, 5), Code.call(Code.KILL), Code.call(Code.KILL, 2),
            Code.go(5));
        Check.due("run", 3, x.run(3));
        registers("KILL of a process", x, 1, 0, 0, 0, 0);
        state("killed before its first step", x, 2, 3, 1, 0, 1, 0, -1, 1, 0, 0);
        Check.due("run", 2, x.run(2));
        registers("KILL of a ZOMBIE", x, 1, -1, 0, 0, 0);

        UnixDesk self = Code.booted(Code.call(Code.FORK), Code.zero(0, 3), Code.go(2), Code.call(Code.PID),
            Code.call(Code.KILL), Code.go(5));
        Check.due("run", 8, self.run(8));
        state("KILLs itself", self, 2, 3, 1, 0, 5, 0, -1, 1, 3, 0);
        registers("KILLs itself", self, 2, 0, 0, 0, 0);

        UnixDesk sleeper = Code.booted(Code.call(Code.FORK), Code.zero(0, 6), Code.call(Code.SLEEP, 5),
            Code.call(Code.KILL, 2), Code.call(Code.SLEEP, 500));
        Check.due("run", 10, sleeper.run(10));
        state("killed in SLEEP", sleeper, 2, 3, 1, 0, 7, 0, -1, 1, 3, 0);
        registers("killed in SLEEP", sleeper, 2, 500, 0, 0, 0);
    }

    /** KILL of process 1: its children have no parent, and those that are ZOMBIES are no more. */
    private static void endOfTheFirst() {
        UnixDesk x = Code.booted(
            Code.call(Code.FORK), Code.zero(0, 9), Code.call(Code.FORK), Code.zero(0, 6), Code.call(Code.SLEEP, 100),
            Code.call(Code.KILL, 1), Code.go(8), Code.call(Code.EXIT));
        Check.due("run", 7, x.run(7));
        Check.due("pid 2 is a ZOMBIE", 3, x.process(2, 0));
        Check.due("three processes", 3, x.total(0));
        Check.due("run", 3, x.run(3));
        Check.due("pid 1 is no more", BAD, x.process(1, 0));
        Check.due("pid 2 is no more", BAD, x.process(2, 0));
        Check.due("pid 3 has no parent", 0, x.process(3, 1));
        Check.due("one process", 1, x.total(0));
    }

    /** Process 2 ends: its children, one a ZOMBIE, have parent 1, which can wait for them. */
    private static void orphans() {
        UnixDesk x = Code.booted(
            Code.call(Code.FORK), Code.zero(0, 6), Code.call(Code.WAIT), Code.set(3, 1), Code.call(Code.WAIT), Code.go(5),
            Code.call(Code.FORK), Code.zero(0, 11), Code.call(Code.FORK), Code.zero(0, 9), Code.call(Code.SLEEP, 3),
            Code.call(Code.EXIT, 70));
        Check.due("run", 19, x.run(19));
        Check.due("3 is a ZOMBIE", 3, x.process(3, 0));
        Check.due("of parent 2", 2, x.process(3, 1));
        Check.due("parent of 4", 2, x.process(4, 1));
        Check.due("parent 1 waits", 2, x.process(1, 0));
        Check.due("run", 8, x.run(8));
        Check.due("2 is a ZOMBIE", 3, x.process(2, 0));
        Check.due("parent of 2", 1, x.process(2, 1));
        Check.due("parent of the ZOMBIE", 1, x.process(3, 1));
        Check.due("which stays one", 3, x.process(3, 0));
        Check.due("parent of the other one", 1, x.process(4, 1));
        Check.due("which goes on", 1, x.process(4, 0));
        Check.due("parent 1 is READY", 1, x.process(1, 0));
        Check.due("run", 8, x.run(8));
        registers("both waited for", x, 1, 3, 70, 0, 1);
        Check.due("two processes are left", 2, x.total(0));
    }

    /** When process 1 is gone, a process whose parent ends has none, and is no more when it ends. */
    private static void orphansOfNobody() {
        UnixDesk x = Code.booted(
            Code.call(Code.FORK), Code.zero(0, 3), Code.call(Code.EXIT), Code.call(Code.FORK), Code.zero(0, 8),
            Code.call(Code.SLEEP, 10), Code.call(Code.EXIT), Code.call(Code.SLEEP, 40));
        Check.due("run", 3, x.run(3));
        Check.due("pid 2 has no parent", 0, x.process(2, 1));
        Check.due("run", 4, x.run(4));
        Check.due("pid 3 has parent 2", 2, x.process(3, 1));
        Check.due("and the slot of 1", 0, x.process(3, 6));
        Check.due("run", 6, x.run(6));
        Check.due("pid 2 is no more", BAD, x.process(2, 0));
        Check.due("pid 3 has no parent", 0, x.process(3, 1));
        Check.due("SLEEP and the end", 2, x.run(200));
        Check.due("no process", 0, x.total(0));
    }

    private static void execResults() {
        UnixDesk x = new UnixDesk();
        Code.program(x, 4, Code.go(0));
        Code.boot(x, Code.call(Code.PIPE), Code.set(2, 3), Code.store(2, 2), Code.call(Code.GROW, 2),
            Code.call(Code.EXEC, 4));
        Check.due("run", 7, x.run(7));
        state("EXEC", x, 1, 1, 0, 4, 0, 1, 0, 0, 7, 0);
        registers("EXEC", x, 1, 0, 0, 0, 0);
        Check.due("zeros", 0, x.memory(1, 3));
        Check.due("frames", 19, x.total(1));
        Check.due("descriptors stay", 2, x.descriptor(1, 0, 0));
        Check.due("descriptors stay", 3, x.descriptor(1, 1, 0));
        int[] none = {-1, 6, Integer.MAX_VALUE};
        for (int program : none) {
            UnixDesk y = Code.after(5, Code.set(2, 2), Code.store(2, 2), Code.call(Code.EXEC, program), Code.go(4));
            registers("EXEC " + program, y, 1, -1, 0, 2, 0);
            Check.due("memory stays", 2, y.memory(1, 2));
            Check.due("goes on", 4, y.process(1, 3));
        }
    }

    /** EXEC keeps what 8: a page was copied before it. */
    private static void execKeepsCounts() {
        UnixDesk x = Code.booted(Code.call(Code.FORK), Code.store(3, 3), Code.call(Code.EXEC, 5));
        Check.due("run", 4, x.run(4));
        state("EXEC behind a copy", x, 1, 1, 0, 5, 0, 1, 0, 0, 4, 1);
        state("the other one", x, 2, 1, 1, 0, 1, 1, 0, 1, 0, 0);
    }

    /**
     * Processes 2, 3 and 4 GROW until all 20 frames are in use. Process 5, whose one page is shared by all, then does
     * what is at 16, with R3 77.
     */
    private static UnixDesk withoutFrames(Object... rest) {
        UnixDesk x = Code.booted(
            Code.call(Code.FORK), Code.zero(0, 10), Code.call(Code.FORK), Code.zero(0, 10), Code.call(Code.FORK),
            Code.zero(0, 13), Code.set(3, 77), Code.call(Code.FORK), Code.zero(0, 16), Code.go(9),
            Code.call(Code.GROW, 7), Code.go(12), Code.call(Code.GROW, 5), Code.go(15), Code.join(rest));
        Check.due("run", 41, x.run(41));
        Check.due("no FREE frame", 0, x.total(1));
        Check.due("process 5 is at 16", 16, x.process(5, 3));
        Check.due("five share its page", 5, x.sharing(5, 0));
        return x;
    }

    private static void noFrames() {
        UnixDesk exec = withoutFrames(Code.call(Code.EXEC, 3), Code.go(18));
        Check.due("run", 2, exec.run(2));
        state("EXEC without a frame", exec, 5, 3, 1, 0, 18, 0, -1, 4, 3, 0);
        registers("EXEC without a frame", exec, 5, 3, 0, 0, 77);
        Check.due("its page went", 4, exec.sharing(1, 0));
        UnixDesk store = withoutFrames(Code.store(3, 1), Code.go(17));
        Check.due("run", 1, store.run(1));
        state("STORE without a frame", store, 5, 3, 1, 0, 17, 0, -1, 4, 2, 0);
        registers("STORE without a frame", store, 5, 0, 0, 0, 77);
        Check.due("nothing was stored", 0, store.memory(1, 0));
        UnixDesk grow = withoutFrames(Code.call(Code.GROW, 1), Code.call(Code.GROW, 0), Code.go(20));
        Check.due("run", 2, grow.run(2));
        Check.due("GROW without a frame", -1, grow.process(5, 10));
        Check.due("run", 2, grow.run(2));
        Check.due("GROW by 0", 1, grow.process(5, 10));
        UnixDesk load = withoutFrames(Code.load(3, 1), Code.go(17));
        Check.due("run", 1, load.run(1));
        registers("LOAD needs no frame", load, 5, 0, 0, 0, 0);
    }

    private static void sleeps() {
        int[] none = {-1, 1001, Integer.MIN_VALUE, Integer.MAX_VALUE};
        for (int length : none) {
            UnixDesk x = Code.after(2, Code.call(Code.SLEEP, length), Code.go(2));
            Check.due("SLEEP " + length, -1, x.process(1, 10));
            Check.due("no block", 1, x.process(1, 0));
        }
        UnixDesk zero = Code.after(3, Code.call(Code.SLEEP, 0), Code.go(2));
        Check.due("SLEEP 0 gives 0", 0, zero.process(1, 10));
        Check.due("SLEEP 0 is done at once", 2, zero.process(1, 3));
        Check.due("TIME", 3, zero.total(5));
        UnixDesk most = Code.after(3, Code.call(Code.SLEEP, 1000), Code.go(2));
        Check.due("SLEEP 1000", 1003, most.total(5));
        Check.due("SLEEP 1000 gives 0", 0, most.process(1, 10));
        UnixDesk one = Code.after(3, Code.call(Code.SLEEP, 1), Code.go(2));
        Check.due("SLEEP 1", 4, one.total(5));
        UnixDesk twice = Code.after(6, Code.call(Code.SLEEP, 10), Code.call(Code.SLEEP, 10), Code.go(4));
        Check.due("SLEEP twice", 26, twice.total(5));
        UnixDesk blocked = Code.after(2, Code.call(Code.SLEEP, 7), Code.go(2));
        state("sleeping", blocked, 1, 2, 0, 0, 1, 1, 0, 0, 2, 0);
        Check.due("R0 stays", 7, blocked.process(1, 10));
    }

    private static void tellsPid() {
        UnixDesk x = Code.booted(Code.call(Code.FORK), Code.call(Code.PID), Code.call(Code.SAY), Code.go(3));
        Check.due("run", 8, x.run(8));
        Check.due("PID of the child", 2, x.said(0));
        Check.due("PID of the first", 1, x.said(1));
        Check.due("SAY gives it", 2, x.process(2, 10));
    }

    public static void main(String[] args) {
        questions();
        instructions();
        forks();
        forkKeepsProgram();
        slotIsUsedAgain();
        childInSlotZero();
        notWithEight();
        exits();
        badAddressKills();
        waits();
        blockedWait();
        kills();
        endOfTheFirst();
        orphans();
        orphansOfNobody();
        execResults();
        execKeepsCounts();
        noFrames();
        sleeps();
        tellsPid();
        Check.finish();
    }
}
