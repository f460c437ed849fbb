/** Promise 6, with COMMIT and CHANGES. */
public final class CrashTest {
    private static final int BAD = UnixDesk.BAD;

    private static void processesGo() {
        UnixDesk x = Code.booted(Code.call(Code.PIPE), Code.call(Code.FORK), Code.call(Code.FORK), Code.zero(0, 5),
            Code.go(4), Code.call(Code.EXIT));
        Check.due("run", 60, x.run(60));
        Check.due("ZOMBIES are among them", 3, x.process(3, 0));
        int time = x.total(5);
        Check.due("crash", 4, x.crash());
        int[] totals = {0, 20, 16, 8, 0, time, 0, 0, 0, x.total(9), 4};
        for (int what = 0; what < totals.length; what++) {
            Check.due("total " + what, totals[what], x.total(what));
        }
        for (int pid = 1; pid <= 4; pid++) {
            Check.due("process " + pid, BAD, x.process(pid, 0));
            Check.due("memory of " + pid, 0, x.memory(pid, 0));
            Check.due("sharing of " + pid, 0, x.sharing(pid, 0));
            Check.due("descriptor of " + pid, BAD, x.descriptor(pid, 0, 0));
        }
        Check.due("run", 0, x.run(9));
        Check.due("crash again", 0, x.crash());
        Check.due("add is possible", 7, x.add(0, 0, 0, 0));
        Check.due("programs stay", 7, x.clear(0));
    }

    private static void whatStays() {
        UnixDesk x = Code.after(6, Code.call(Code.SAY, 5), Code.call(Code.SAY, 6), Code.call(Code.SLEEP, 90));
        x.run(2);
        Check.due("TIME", 98, x.total(5));
        x.crash();
        Check.due("TIME stays", 98, x.total(5));
        Check.due("said", 6, x.said(0));
        Check.due("said", 5, x.said(1));
        Check.due("how many", 2, x.total(6));
        Check.due("pid of the latest step", 1, x.total(9));
        Check.due("greatest pid", 1, x.total(10));
    }

    private static void withoutCommit() {
        UnixDesk x = Code.after(6, Code.call(Code.OPEN, 0, 7), Code.call(Code.WRITE, 0, 5), Code.go(6));
        Check.due("CHANGES", 2, x.total(7));
        x.crash();
        Check.due("name", -1, x.name(0));
        Check.due("file", BAD, x.file(0, 0));
        Check.due("FREE files", 8, x.total(3));
        Check.due("FREE blocks", 16, x.total(2));
        Check.due("CHANGES", 0, x.total(7));
        // A boot is no crash: what a program wrote is there for the next one, committed or not.
        UnixDesk y = new UnixDesk();
        Code.runToEnd(y, Code.call(Code.OPEN, 0, 7), Code.call(Code.WRITE, 0, 5));
        Code.boot(y, Code.call(Code.PID));
        Check.due("word", 5, y.word(0, 0));
        Check.due("CHANGES", 2, y.total(7));
    }

    private static void committed() {
        UnixDesk x = new UnixDesk();
        Code.runToEnd(x, Code.call(Code.OPEN, 3, 7), Code.call(Code.WRITE, 0, 5), Code.call(Code.WRITE, 0, 6),
            Code.call(Code.LINK, 3, 1), Code.call(Code.COMMIT), Code.call(Code.SAY));
        Check.due("COMMIT gives 0", 0, x.said(0));
        Check.due("CHANGES", 0, x.total(7));
        // Everything is changed: words, size, names, another file in between.
        Code.runToEnd(x, Code.call(Code.OPEN, 3, 2), Code.call(Code.WRITE, 0, 50), Code.call(Code.OPEN, 4, 6),
            Code.call(Code.UNLINK, 3), Code.call(Code.LINK, 1, 7), Code.call(Code.OPEN, 7, 10),
            Code.call(Code.UNLINK, 1));
        Check.due("CHANGES", 6, x.total(7));
        for (int crash = 0; crash < 2; crash++) {
            x.crash();
            int[] names = {-1, 0, -1, 0, -1, -1, -1, -1};
            for (int k = 0; k < 8; k++) {
                Check.due("name " + k, names[k], x.name(k));
            }
            Check.due("size", 2, x.file(0, 0));
            Check.due("names", 2, x.file(0, 1));
            Check.due("open files", 0, x.file(0, 2));
            Check.due("word 0", 5, x.word(0, 0));
            Check.due("word 1", 6, x.word(0, 1));
            Check.due("other file", BAD, x.file(1, 0));
            Check.due("FREE files", 7, x.total(3));
            Check.due("FREE blocks", 15, x.total(2));
            Check.due("CHANGES", 0, x.total(7));
            // What is written behind a crash is not SAFE either.
            Code.runToEnd(x, Code.call(Code.OPEN, 1, 2), Code.call(Code.WRITE, 0, 60), Code.call(Code.UNLINK, 3));
        }
    }

    /** A file without a name is there while it is open, but not behind a crash, committed or not. */
    private static void withoutName() {
        UnixDesk x = Code.booted(Code.call(Code.OPEN, 3, 7), Code.call(Code.OPEN, 2, 7), Code.call(Code.WRITE, 0, 5),
            Code.call(Code.UNLINK, 3), Code.call(Code.COMMIT), Code.go(12));
        Check.due("run", 12, x.run(12));
        Check.due("size", 1, x.file(0, 0));
        Check.due("names", 0, x.file(0, 1));
        x.crash();
        Check.due("file", BAD, x.file(0, 0));
        Check.due("word", 0, x.word(0, 0));
        Check.due("the other one", 1, x.name(2));
        Check.due("FREE files", 7, x.total(3));
        Check.due("FREE blocks", 16, x.total(2));
        Code.runToEnd(x, Code.call(Code.OPEN, 5, 6), Code.call(Code.PID));
        Check.due("the least FREE one", 0, x.name(5));
        Check.due("of size 0", 0, x.file(0, 0));
    }

    /** Writes of a loop: the 30th CHANGE commits, with what it changed. */
    private static void thirtieth() {
        UnixDesk x = new UnixDesk();
        Code.boot(x, Code.call(Code.OPEN, 0, 7), Code.set(1, 0), Code.call(Code.SEEK), Code.set(2, 1), Code.add(3, 2),
            Code.move(1, 3), Code.set(0, 0), Code.call(Code.WRITE), Code.set(0, 0), Code.go(3));
        Check.due("run", 3, x.run(3));
        Check.due("one by OPEN", 1, x.total(7));
        for (int k = 1; k <= 29; k++) {
            Check.due("run", 10, x.run(10));
            Check.due("CHANGES behind write " + k, (k + 1) % 30, x.total(7));
        }
        Check.due("run", 10, x.run(10));
        Check.due("CHANGES", 1, x.total(7));
        Check.due("word", 30, x.word(0, 0));
        x.crash();
        Check.due("name", 0, x.name(0));
        Check.due("word of the 30th CHANGE", 29, x.word(0, 0));
        Check.due("CHANGES", 0, x.total(7));
    }

    /** Each kind of CHANGE as the 30th: it is itself SAFE. */
    private static void thirtiethOfEachKind() {
        for (int kind = 0; kind < 5; kind++) {
            UnixDesk x = new UnixDesk();
            Code.runToEnd(x, Code.call(Code.OPEN, 0, 7), Code.call(Code.WRITE, 0, 9), Code.call(Code.COMMIT));
            // 29 CHANGES: one OPEN that makes name 6, and 28 LINKS and UNLINKS.
            Code.runToEnd(x, Code.call(Code.OPEN, 6, 7), Code.set(3, 14), Code.call(Code.LINK, 6, 7),
                Code.call(Code.UNLINK, 7), Code.set(1, 1), Code.sub(3, 1), Code.zero(3, 13), Code.go(4),
                Code.call(Code.SAY));
            Check.due("CHANGES", 29, x.total(7));
            Object[][] last = {
                Code.call(Code.OPEN, 1, 6), Code.call(Code.OPEN, 0, 10), Code.call(Code.LINK, 0, 2),
                Code.call(Code.UNLINK, 0), Code.join(Code.call(Code.OPEN, 0, 2), Code.call(Code.WRITE, 0, 33)),
            };
            Code.boot(x, last[kind]);
            x.run(6);
            Check.due("CHANGES of kind " + kind, 0, x.total(7));
            x.crash();
            Check.due("name 6", 1, x.name(6));
            Check.due("name 1", kind == 0 ? 2 : -1, x.name(1));
            Check.due("name 2", kind == 2 ? 0 : -1, x.name(2));
            Check.due("name 0", kind == 3 ? -1 : 0, x.name(0));
            Check.due("size", kind == 1 ? 0 : kind == 3 ? BAD : 1, x.file(0, 0));
            Check.due("word", kind == 1 || kind == 3 ? 0 : kind == 4 ? 33 : 9, x.word(0, 0));
        }
    }

    private static void whatCounts() {
        UnixDesk x = new UnixDesk();
        Code.boot(x,
            Code.call(Code.OPEN, 0, 15), Code.call(Code.OPEN, 0, 11), Code.call(Code.OPEN, 0, 7),
            Code.call(Code.WRITE, 0, 0), Code.call(Code.READ, 2), Code.call(Code.CLOSE, 2), Code.call(Code.PIPE),
            Code.call(Code.WRITE, 3, 7), Code.go(20));
        int[][] due = {{3, 1}, {3, 2}, {3, 2}, {3, 3}, {2, 3}, {2, 3}, {1, 3}, {3, 3}};
        for (int[] d : due) {
            Check.due("run", d[0], x.run(d[0]));
            Check.due("CHANGES", d[1], x.total(7));
        }
        Check.due("the WRITE to the pipe was done", 1, x.process(1, 10));
    }

    public static void main(String[] args) {
        processesGo();
        whatStays();
        withoutCommit();
        committed();
        withoutName();
        thirtieth();
        thirtiethOfEachKind();
        whatCounts();
        Check.finish();
    }
}
