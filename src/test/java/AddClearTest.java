/** Promises 2 and 3, and the order of BAD and FULL of promise 16. */
public final class AddClearTest {
    private static final int MIN = Integer.MIN_VALUE, MAX = Integer.MAX_VALUE;

    private static void rangesOfNumbers() {
        int[][] good = {
            {0, 0, 0, MIN}, {5, 0, 3, MAX}, {0, 1, 0, 3}, {0, 2, 3, 0}, {0, 3, 3, 3}, {0, 4, 0, 0}, {0, 5, 3, 3},
            {0, 6, MIN, 0}, {0, 6, MAX, 23}, {0, 7, 3, 23}, {0, 7, 0, 0}, {0, 8, MIN, 0}, {0, 8, MAX, 18},
        };
        int[][] bad = {
            {-1, 0, 0, 0}, {6, 0, 0, 0}, {MIN, 0, 0, 0}, {MAX, 0, 0, 0}, {0, -1, 0, 0}, {0, 9, 0, 0}, {0, MAX, 0, 0},
            {0, 0, -1, 0}, {0, 0, 4, 0}, {0, 6, 0, -1}, {0, 6, 0, 24}, {0, 7, -1, 0}, {0, 7, 4, 0}, {0, 7, 0, -1},
            {0, 7, 0, 24}, {0, 8, 0, -1}, {0, 8, 0, 19}, {0, 8, 0, MAX},
        };
        UnixDesk x = new UnixDesk();
        int[] length = new int[6];
        for (int[] n : good) {
            length[n[0]]++;
            Check.due("add of op " + n[1], length[n[0]], x.add(n[0], n[1], n[2], n[3]));
        }
        for (int[] n : bad) {
            Check.due("bad add of op " + n[1], UnixDesk.BAD, x.add(n[0], n[1], n[2], n[3]));
        }
        for (int op = 1; op <= 5; op++) {
            Check.due("register a -1", UnixDesk.BAD, x.add(0, op, -1, 0));
            Check.due("register a 4", UnixDesk.BAD, x.add(0, op, 4, 0));
            Check.due("register b -1", UnixDesk.BAD, x.add(0, op, 0, -1));
            Check.due("register b 4", UnixDesk.BAD, x.add(0, op, 0, 4));
        }
        Check.due("bad ones add nothing", length[0], x.clear(0));
    }

    private static void badBeforeFull() {
        UnixDesk x = new UnixDesk();
        for (int k = 1; k <= 24; k++) {
            Check.due("add " + k, k, x.add(2, 0, 0, 0));
        }
        Check.due("the 25th", UnixDesk.FULL, x.add(2, 0, 0, 0));
        Check.due("bad op of a full program", UnixDesk.BAD, x.add(2, 9, 0, 0));
        Check.due("another program has room", 1, x.add(3, 0, 0, 0));
        Check.due("boot", true, x.boot(2));
        Check.due("a process, program full", UnixDesk.BAD, x.add(2, 0, 0, 0));
        Check.due("a process, other program", UnixDesk.BAD, x.add(3, 0, 0, 0));
        Check.due("crash", 1, x.crash());
        Check.due("full again", UnixDesk.FULL, x.add(2, 0, 0, 0));
    }

    private static void clears() {
        UnixDesk x = new UnixDesk();
        x.add(1, 0, 0, 7);
        x.add(1, 8, 0, 16);
        x.add(4, 8, 0, 0);
        Check.due("clear -1", UnixDesk.BAD, x.clear(-1));
        Check.due("clear 6", UnixDesk.BAD, x.clear(6));
        Check.due("boot", true, x.boot(1));
        Check.due("clear with a process", UnixDesk.BAD, x.clear(1));
        Check.due("clear an empty one with a process", UnixDesk.BAD, x.clear(0));
        Check.due("SET, SAY and the end", 3, x.run(9));
        Check.due("clear", 2, x.clear(1));
        Check.due("clear again", 0, x.clear(1));
        Check.due("the other one stays", 1, x.clear(4));
        Check.due("add begins anew", 1, x.add(1, 0, 0, 8));
        Check.due("boot", true, x.boot(1));
        Check.due("SET and the end", 2, x.run(9));
        Check.due("nothing more said", 1, x.total(6));
    }

    private static void zombiesAreProcesses() {
        UnixDesk x = Code.after(7, Code.call(Code.FORK), Code.zero(0, 3), Code.go(2));
        Check.due("child is a ZOMBIE", 3, x.process(2, 0));
        Check.due("add", UnixDesk.BAD, x.add(0, 0, 0, 0));
        Check.due("boot", false, x.boot(0));
    }

    public static void main(String[] args) {
        rangesOfNumbers();
        badBeforeFull();
        clears();
        zombiesAreProcesses();
        Check.finish();
    }
}
