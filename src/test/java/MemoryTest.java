/** Promises 8 and 9, with GROW, LOAD, STORE, and pages that are shared until they are written to. */
public final class MemoryTest {
    private static void words() {
        UnixDesk x = Code.after(7, Code.set(0, 77), Code.set(1, 3), Code.store(0, 1), Code.set(2, 5), Code.load(2, 1),
            Code.call(Code.GROW, 1), Code.go(7));
        int[] due = {0, 0, 0, 77, 0, 0, 0, 0};
        for (int address = 0; address < due.length; address++) {
            Check.due("memory " + address, due[address], x.memory(1, address));
        }
        Check.due("LOAD", 77, x.process(1, 12));
        int[] none = {-1, 8, 32, Integer.MIN_VALUE, Integer.MAX_VALUE};
        for (int address : none) {
            Check.due("memory " + address, 0, x.memory(1, address));
        }
        int[] pids = {0, -1, 2, Integer.MAX_VALUE};
        for (int pid : pids) {
            Check.due("memory of process " + pid, 0, x.memory(pid, 3));
            Check.due("sharing of process " + pid, 0, x.sharing(pid, 0));
        }
        Check.due("sharing of page 1", 1, x.sharing(1, 1));
        int[] pages = {-1, 2, 8, Integer.MIN_VALUE, Integer.MAX_VALUE};
        for (int page : pages) {
            Check.due("sharing of page " + page, 0, x.sharing(1, page));
        }
    }

    private static void grows() {
        int[][] due = {{0, 1, 1}, {7, 1, 8}, {8, -1, 1}, {-1, -1, 1}, {Integer.MAX_VALUE, -1, 1}, {3, 1, 4}};
        for (int[] d : due) {
            UnixDesk x = Code.after(2, Code.call(Code.GROW, d[0]), Code.go(2));
            Check.due("GROW " + d[0], d[1], x.process(1, 10));
            Check.due("pages", d[2], x.process(1, 4));
            Check.due("FREE frames", 20 - d[2], x.total(1));
        }
        UnixDesk x = Code.after(4, Code.call(Code.GROW, 4), Code.call(Code.GROW, 4), Code.go(4));
        Check.due("more than 8 then", -1, x.process(1, 10));
        Check.due("pages stay", 5, x.process(1, 4));
        UnixDesk y = Code.after(6, Code.call(Code.GROW, 4), Code.call(Code.GROW, 3), Code.call(Code.GROW, 0), Code.go(6));
        Check.due("8 are possible", 8, y.process(1, 10));
        UnixDesk last = Code.after(6, Code.call(Code.GROW, 7), Code.set(1, 31), Code.store(1, 1), Code.load(2, 1),
            Code.go(6));
        Check.due("the last word", 31, last.process(1, 12));
        Check.due("the last word", 31, last.memory(1, 31));
    }

    /** A page that GROW gives is of zeros, also if its frame was written to by a process that is gone. */
    private static void zeros() {
        UnixDesk x = Code.booted(
            Code.call(Code.FORK), Code.zero(0, 6), Code.call(Code.WAIT), Code.call(Code.GROW, 7), Code.go(5),
            Code.call(Code.GROW, 7), Code.set(1, 1), Code.store(1, 2), Code.add(2, 1), Code.set(3, 31), Code.less(3, 2),
            Code.zero(3, 9));
        Check.due("run", 3 + 4 + 32 * 5 + 1 + 4, x.run(3 + 4 + 32 * 5 + 1 + 4));
        Check.due("pages", 8, x.process(1, 4));
        for (int address = 0; address < 32; address++) {
            Check.due("memory " + address, 0, x.memory(1, address));
        }
    }

    private static void copyBeforeWrite() {
        // Words 1 and 6 are written; then there are three processes, of which the first writes to word 1 once more.
        UnixDesk x = Code.after(10, Code.call(Code.GROW, 1), Code.set(1, 1), Code.set(2, 6), Code.store(2, 1),
            Code.store(1, 2), Code.call(Code.FORK), Code.call(Code.FORK), Code.set(3, 9), Code.store(3, 1), Code.go(10));
        Check.due("page 0 of process 1 is its own", 1, x.sharing(1, 0));
        Check.due("page 0 of process 2 is shared", 2, x.sharing(2, 0));
        Check.due("page 0 of process 3 is shared", 2, x.sharing(3, 0));
        Check.due("page 1 of all three is shared", 3, x.sharing(1, 1));
        Check.due("process 1 copied one page", 1, x.process(1, 8));
        Check.due("process 2 none", 0, x.process(2, 8));
        Check.due("word of process 1", 9, x.memory(1, 1));
        Check.due("word of process 2", 6, x.memory(2, 1));
        Check.due("word of the other page", 1, x.memory(1, 6));
        Check.due("FREE frames", 17, x.total(1));
    }

    /** The other words of a page come along, and LOAD copies nothing. */
    private static void sameWords() {
        UnixDesk x = Code.after(10, Code.set(1, 2), Code.store(1, 1), Code.set(2, 3), Code.store(2, 2),
            Code.call(Code.FORK), Code.load(3, 1), Code.zero(3, 0), Code.go(8), Code.go(8));
        Check.due("LOAD", 2, x.process(2, 13));
        Check.due("shared yet", 2, x.sharing(1, 0));
        UnixDesk y = Code.after(8, Code.set(1, 2), Code.store(1, 1), Code.set(2, 3), Code.store(2, 2), Code.store(1, 3),
            Code.call(Code.FORK), Code.store(2, 1), Code.go(7));
        Check.due("written word", 3, y.memory(1, 2));
        Check.due("words that came along", 2, y.memory(1, 0));
        Check.due("words that came along", 0, y.memory(1, 1));
        Check.due("words that came along", 3, y.memory(1, 3));
        Check.due("the writer copied", 1, y.process(1, 8));
        Check.due("word of the other one", 2, y.memory(2, 2));
    }

    /** The last one that has a frame writes to it without a copy; what 8 counts one page as often as it is copied. */
    private static void copiesCount() {
        UnixDesk x = Code.booted(
            Code.call(Code.FORK), Code.zero(0, 7), Code.store(0, 1), Code.call(Code.FORK), Code.zero(0, 7),
            Code.store(0, 1), Code.go(6), Code.call(Code.SLEEP, 1), Code.store(1, 1), Code.go(10));
        Check.due("run", 6, x.run(6));
        Check.due("first copy", 1, x.process(1, 8));
        Check.due("first word", 2, x.memory(1, 0));
        Check.due("run", 60, x.run(60));
        Check.due("second copy of one page", 2, x.process(1, 8));
        Check.due("second word", 3, x.memory(1, 0));
        Check.due("process 2 was the last one", 0, x.process(2, 8));
        Check.due("process 3 too", 0, x.process(3, 8));
        Check.due("frames", 17, x.total(1));
    }

    private static void zombieHasNone() {
        UnixDesk x = Code.booted(Code.set(1, 2), Code.store(1, 1), Code.call(Code.FORK), Code.zero(0, 5), Code.go(4),
            Code.call(Code.EXIT));
        Check.due("run", 5, x.run(5));
        Check.due("shared", 2, x.sharing(1, 0));
        Check.due("run", 2, x.run(2));
        Check.due("ZOMBIE", 3, x.process(2, 0));
        Check.due("no words", 0, x.memory(2, 2));
        Check.due("no pages", 0, x.sharing(2, 0));
        Check.due("not shared", 1, x.sharing(1, 0));
        Check.due("word of the other one", 2, x.memory(1, 2));
    }

    public static void main(String[] args) {
        words();
        grows();
        zeros();
        copyBeforeWrite();
        sameWords();
        copiesCount();
        zombieHasNone();
        Check.finish();
    }
}
