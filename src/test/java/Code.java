/** Instructions and calls by name, so that the tests' programs can be read. */
final class Code {
    static final int EXIT = 0, FORK = 1, WAIT = 2, KILL = 3, GROW = 4, EXEC = 5, PIPE = 6, READ = 7, WRITE = 8,
        CLOSE = 9, DUP = 10, OPEN = 11, LINK = 12, UNLINK = 13, SLEEP = 14, PID = 15, SAY = 16, SEEK = 17, COMMIT = 18;
    static final int R0 = 0, R1 = 1, R2 = 2, R3 = 3;

    private Code() { }

    static int[] set(int register, int value) { return new int[] {0, register, value}; }
    static int[] add(int a, int b) { return new int[] {1, a, b}; }
    static int[] sub(int a, int b) { return new int[] {2, a, b}; }
    static int[] less(int a, int b) { return new int[] {3, a, b}; }
    static int[] load(int a, int address) { return new int[] {4, a, address}; }
    static int[] store(int a, int address) { return new int[] {5, a, address}; }
    static int[] go(int to) { return new int[] {6, 0, to}; }
    static int[] zero(int a, int to) { return new int[] {7, a, to}; }
    static int[] call(int number) { return new int[] {8, 0, number}; }

    /** A register set to 0 and a register added to it: the machine has no move. */
    static int[][] move(int to, int from) { return new int[][] {set(to, 0), add(to, from)}; }

    /** The instructions of a call with its arguments. */
    static int[][] call(int number, int r0) { return new int[][] {set(R0, r0), call(number)}; }
    static int[][] call(int number, int r0, int r1) {
        return new int[][] {set(R0, r0), set(R1, r1), call(number)};
    }

    /** So many open files of name 0, each at the least free descriptor. */
    static int[][] opens(int count) {
        int[][] code = {set(R1, 7)};
        for (int k = 0; k < count; k++) code = join(code, set(R0, 0), call(OPEN));
        return code;
    }

    static int[][] join(Object... parts) {
        java.util.List<int[]> all = new java.util.ArrayList<>();
        for (Object part : parts) {
            if (part instanceof int[][]) {
                all.addAll(java.util.Arrays.asList((int[][]) part));
            } else {
                all.add((int[]) part);
            }
        }
        return all.toArray(new int[0][]);
    }

    /** Puts a program of single instructions and groups of them in the place of what was there. */
    static void program(UnixDesk x, int program, Object... parts) {
        int[][] code = join(parts);
        x.clear(program);
        for (int k = 0; k < code.length; k++) {
            Check.due("add instruction " + k, k + 1, x.add(program, code[k][0], code[k][1], code[k][2]));
        }
    }

    /** Puts program 0, and boots it. */
    static void boot(UnixDesk x, Object... parts) {
        program(x, 0, parts);
        Check.due("boot", true, x.boot(0));
    }

    /** Boots a program on an object that keeps its files, runs it to its end, and answers how many steps that took. */
    static int runToEnd(UnixDesk x, Object... parts) {
        boot(x, parts);
        return x.run(200);
    }

    /** A new object that has booted a program. */
    static UnixDesk booted(Object... parts) {
        UnixDesk x = new UnixDesk();
        boot(x, parts);
        return x;
    }

    /** A new object that did so many steps of a program. */
    static UnixDesk after(int steps, Object... parts) {
        UnixDesk x = booted(parts);
        Check.due("run(" + steps + ")", steps, x.run(steps));
        return x;
    }
}
