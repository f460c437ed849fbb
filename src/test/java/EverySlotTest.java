/** The same calls by a process in each of the 8 slots, on each of the 8 files, and on each of the 4 pipes. */
public final class EverySlotTest {
    /**
     * Process n, in slot n - 1, is to do the parts, which begin at instruction 8 of program 0; each before it is the
     * parent of the next and waits. R1 of it is 1, R2 is n, and all share one page.
     */
    private static Story deep(int n, Object... parts) {
        return Story.boot(Code.set(1, 1), Code.add(2, 1), Code.set(0, n), Code.sub(0, 2), Code.zero(0, 8),
            Code.call(Code.FORK), Code.zero(0, 1), Code.call(Code.WAIT), Code.join(parts)).until(n, 8);
    }

    /** How many pages of the processes before n have one frame. */
    private static Look shared(Look look, int n, int count) {
        for (int pid = 1; pid < n; pid++) look = look.but(Look.sharing(pid, 0), count);
        return look;
    }

    private static Look ended(Look look, int n, int status) {
        look = shared(look, n, n - 1);
        if (n == 1) return look.gone(1).more(Look.total(1), 1);
        return look.zombie(n, status).but(Look.process(n - 1, 0), 1);
    }

    private static void computes(int n) {
        Story before = deep(n, Code.set(3, 50), Code.add(3, 2), Code.sub(3, 1), Code.less(1, 3), Code.load(2, 0));
        for (int pid = 1; pid <= n; pid++) Check.due("slot of " + pid, pid - 1, before.told().process(pid, 6));
        Look.at(before).went(n).but(Look.process(n, 13), 50).due("SET", before.run(1));
        Look.at(before.run(1)).went(n).but(Look.process(n, 13), 50 + n).due("ADD", before.run(2));
        Look.at(before.run(2)).went(n).but(Look.process(n, 13), 49 + n).due("SUB", before.run(3));
        Look.at(before.run(3)).went(n).but(Look.process(n, 11), 1).due("LESS", before.run(4));
        Look.at(before.run(4)).went(n).but(Look.process(n, 12), 0).due("LOAD", before.run(5));
    }

    private static void pages(int n) {
        Story store = deep(n, Code.store(2, 1), Code.call(Code.GROW, 2), Code.call(Code.FORK));
        Look due = Look.at(store).went(n).but(Look.memory(n, 1), n);
        if (n > 1) due = shared(due, n, n - 1).but(Look.sharing(n, 0), 1).but(Look.process(n, 8), 1).more(Look.total(1), -1);
        due.due("STORE", store.run(1));
        Story grow = store.run(2);
        due = Look.at(grow).gave(n, 1).but(Look.process(n, 4), 3).more(Look.total(1), -2);
        due.but(Look.sharing(n, 1), 1).but(Look.sharing(n, 2), 1).due("GROW", grow.run(1));
        Story fork = grow.run(1);
        if (n < 8) Look.at(fork).forked(n, n + 1, n).due("FORK", fork.run(1));
        else Edge.refused("FORK", fork, n);
        Story exec = deep(n, Code.set(0, 3), Code.call(Code.EXEC)).run(1);
        due = shared(Look.at(exec).executed(n, 3), n, n - 1);
        due.more(Look.total(1), n == 1 ? 0 : -1).due("EXEC", exec.run(1));
    }

    private static void pipes(int n) {
        Story pipe = deep(n, Code.set(1, 50), Code.call(Code.PIPE), Code.call(Code.WRITE, 1, 70 + n),
            Code.call(Code.DUP, 0), Code.call(Code.READ, 0), Code.call(Code.CLOSE, 2), Code.call(Code.READ, 0)).run(1);
        Look.at(pipe).piped(n, 0, 1).due("PIPE", pipe.run(1));
        Story write = pipe.run(3);
        Edge.gives("WRITE", write, n, 1);
        Story dup = write.run(2);
        Look.at(dup).gave(n, 2).holds(n, 2, 2, -1, 0, 2).but(Look.descriptor(n, 0, 3), 2).due("DUP", dup.run(1));
        Story read = dup.run(2);
        Look.at(read).gave(n, 1).but(Look.process(n, 11), 70 + n).due("READ", read.run(1));
        Story close = read.run(2);
        Look.at(close).gave(n, 0).closed(n, 2).but(Look.descriptor(n, 0, 3), 1).due("CLOSE", close.run(1));
        Edge.blocks("READ", close.run(2), n);
        if (n < 8) {
            Story fork = deep(n, Code.call(Code.PIPE), Code.call(Code.FORK)).run(1);
            shared(Look.at(fork).forked(n, n + 1, n), n, n + 1).due("FORK with open files", fork.run(1));
        }
    }

    private static void files(int n) {
        Story open = deep(n, Code.call(Code.OPEN, n - 1, 7), Code.call(Code.WRITE, 0, 80 + n), Code.call(Code.SEEK, 0, 0),
            Code.call(Code.READ, 0, 5)).run(2);
        Look due = Look.at(open).gave(n, 0).holds(n, 0, 1, 0, 0, 1).but(Look.name(n - 1), 0).but(Look.file(0, 0), 0);
        due = due.but(Look.file(0, 1), 1).but(Look.file(0, 2), 1).but(Look.total(3), 7).but(Look.total(7), 1);
        due.but(Look.total(8), 1).due("OPEN", open.run(1));
        Story write = open.run(3);
        due = Look.at(write).gave(n, 1).but(Look.word(0, 0), 80 + n).but(Look.file(0, 0), 1).but(Look.total(7), 2);
        due.but(Look.total(2), 15).but(Look.descriptor(n, 0, 2), 1).due("WRITE", write.run(1));
        Story seek = write.run(3);
        Look.at(seek).gave(n, 0).but(Look.descriptor(n, 0, 2), 0).due("SEEK", seek.run(1));
        Story read = seek.run(3);
        due = Look.at(read).gave(n, 1).but(Look.process(n, 11), 80 + n).but(Look.descriptor(n, 0, 2), 1);
        due.due("READ", read.run(1));
    }

    private static void processes(int n) {
        Edge.gives("PID", deep(n, Code.call(Code.PID), Code.go(9)), n, n);
        Edge.refused("WAIT", deep(n, Code.call(Code.WAIT), Code.go(9)), n);
        Story sleep = deep(n, Code.set(0, 5), Code.call(Code.SLEEP)).run(1);
        Edge.blocks("SLEEP", sleep, n);
        Story woken = sleep.run(1);
        Look due = Look.at(woken).gave(n, 0).but(Look.process(n, 0), 1).more(Look.total(5), 5);
        due.due("behind SLEEP", woken.run(1));
        Story exit = deep(n, Code.set(0, 60 + n), Code.call(Code.EXIT)).run(1);
        ended(n == 1 ? Look.at(exit).stepped(1) : Look.at(exit).went(n), n, 60 + n).due("EXIT", exit.run(1));
        if (n > 1) {
            Story wait = exit.run(1);
            due = Look.at(wait).gave(n - 1, n).but(Look.process(n - 1, 11), 60 + n).gone(n);
            due.due("WAIT of its parent", wait.run(1));
            Story itself = deep(n, Code.set(0, n), Code.call(Code.KILL)).run(1);
            ended(Look.at(itself).gave(n, 0), n, -1).due("KILL of itself", itself.run(1));
            Story first = deep(n, Code.set(0, 1), Code.call(Code.KILL)).run(1);
            due = Look.at(first).gave(n, 0).gone(1).but(Look.process(2, 1), 0);
            for (int pid = 2; pid <= n; pid++) due = due.but(Look.sharing(pid, 0), n - 1);
            due.due("KILL of process 1", first.run(1));
        }
    }

    /** Eight files of eight words each have all 16 blocks; each keeps its own words. */
    private static void everyFile() {
        Check.sentence("FILES 0..7, of 0 to 16 words");
        Story story = Story.begin();
        int length = 0;
        for (int name = 0; name < 8; name++) {
            story = story.again(length, Code.set(3, 8), Code.call(Code.OPEN, name, 6), Code.set(1, 100 * name), Code.set(0, 0),
                Code.call(Code.WRITE), Code.set(2, 1), Code.sub(3, 2), Code.add(1, 2), Code.zero(3, 12), Code.go(5))
                .run(200, 5 + 8 * 7 - 1 + 1);
            length = 12;
        }
        Look look = Look.at(story);
        Check.due("FREE blocks", 0, look.answer(Look.total(2)));
        Check.due("FREE files", 0, look.answer(Look.total(3)));
        for (int i = 0; i < 8; i++) {
            Check.due("name " + i, i, look.answer(Look.name(i)));
            Check.due("size " + i, 8, look.answer(Look.file(i, 0)));
            for (int k = 0; k < 16; k++) Check.due("word " + k + " of " + i, k < 8 ? 100 * i + k : 0, look.answer(Look.word(i, k)));
            UnixDesk x = story.again(length, Code.call(Code.OPEN, i, 1), Code.set(0, 0), Code.call(Code.READ), Code.go(3)).run(2)
                .told();
            for (int k = 0; k < 8; k++) {
                Check.due("run", 3, x.run(3));
                Check.due("READ", 1, x.process(1, 10));
                Check.due("word " + k + " of " + i, 100 * i + k, x.process(1, 11));
            }
            Check.due("run", 3, x.run(3));
            Check.due("the end", 0, x.process(1, 10));
        }
    }

    /** Pipes, each with words of its own. */
    private static void everyPipe() {
        Check.sentence("Pipes (4) hold 4 words each");
        int[] pipe = Code.call(Code.PIPE);
        int[][] first = Code.join(pipe, Code.call(Code.WRITE, 1, 11), Code.call(Code.WRITE, 1, 12));
        int[][] second = Code.join(pipe, pipe, pipe, Code.call(Code.WRITE, 1, 21), Code.call(Code.WRITE, 3, 31),
            Code.call(Code.WRITE, 5, 41), Code.call(Code.READ, 4), Code.move(0, 1), Code.call(Code.SAY));
        UnixDesk x = Story.three(first, second, Code.go(11)).told();
        Check.due("pipes", 4, x.total(4));
        Check.due("READ of the last of four pipes", 41, x.said(0));
        Story rest = Story.boot(pipe, pipe, pipe, Code.call(Code.WRITE, 5, 41), Code.call(Code.WRITE, 3, 31),
            Code.call(Code.WRITE, 1, 21), Code.call(Code.READ, 4), Code.call(Code.READ, 2), Code.call(Code.READ, 0)).run(13);
        for (int word = 41; word >= 21; word -= 10) {
            Look.at(rest).gave(1, 1).but(Look.process(1, 11), word).due("word " + word, rest.run(1));
            rest = rest.run(2);
        }
    }

    /** A file and a pipe of the same number: READ and WRITE of the file are not BLOCKED by the pipe. */
    private static void fileBesidePipe() {
        Check.sentence("From a file: that at its PLACE, which is one more then; the end is its size.");
        Story read = Story.boot(Code.call(Code.OPEN, 0, 7), Code.call(Code.WRITE, 0, 9), Code.call(Code.SEEK, 0, 0),
            Code.call(Code.PIPE), Code.call(Code.READ, 0, 5)).run(12);
        Look due = Look.at(read).gave(1, 1).but(Look.process(1, 11), 9).but(Look.descriptor(1, 0, 2), 1);
        due.due("READ beside an empty pipe", read.run(1));
        int[][] fill = {Code.call(Code.PIPE)};
        for (int k = 0; k < 4; k++) fill = Code.join(fill, Code.set(0, 1), Code.call(Code.WRITE));
        Story write = Story.boot(fill, Code.call(Code.OPEN, 0, 7), Code.call(Code.WRITE, 2, 9)).run(14);
        due = Look.at(write).gave(1, 1).but(Look.word(0, 0), 9).but(Look.file(0, 0), 1).but(Look.total(7), 2);
        due.but(Look.total(2), 15).but(Look.descriptor(1, 2, 2), 1).due("WRITE beside a full pipe", write.run(1));
        Story broken = Story.boot(Code.call(Code.PIPE), Code.call(Code.CLOSE, 0), Code.call(Code.OPEN, 0, 7),
            Code.call(Code.WRITE, 0, 9)).run(8);
        due = Look.at(broken).gave(1, 1).but(Look.word(0, 0), 9).but(Look.file(0, 0), 1).but(Look.total(7), 2);
        due.but(Look.total(2), 15).but(Look.descriptor(1, 0, 2), 1).due("WRITE beside a broken pipe", broken.run(1));
    }

    public static void main(String[] args) {
        for (int n = 1; n <= 8; n++) {
            Check.sentence("PROCESSES are at most 8, in SLOTS 0..7 (a new one comes to the least free one). Each has a PID");
            computes(n);
            pages(n);
            pipes(n);
            files(n);
            processes(n);
        }
        everyFile();
        everyPipe();
        fileBesidePipe();
        Check.finish();
    }
}
