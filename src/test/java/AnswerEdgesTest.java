/** The edges of what process, memory, sharing, descriptor, name, file, word, total and said are asked. */
public final class AnswerEdgesTest {
    private static final int MIN = Edge.MIN, MAX = Edge.MAX, BAD = Edge.BAD;

    /**
     * Process 1 said 5; process 2 has 2 pages, the ends of a pipe and an open file of two words that has names 0 and 7;
     * process 3 is a ZOMBIE with status 9.
     */
    private static Story life() {
        int[][] second = Code.join(Code.call(Code.GROW, 1), Code.set(2, 7), Code.store(2, 2), Code.call(Code.PIPE),
            Code.call(Code.OPEN, 0, 7), Code.call(Code.WRITE, 2, 33), Code.call(Code.WRITE, 2, 34), Code.call(Code.LINK, 0, 7));
        int[][] third = Code.call(Code.EXIT, 9);
        Story story = Story.three(second, third, Code.call(Code.SAY, 5), Code.go(13));
        UnixDesk x = story.told();
        Check.due("2 sleeps", 2, x.process(2, 0));
        Check.due("3 is a ZOMBIE", 3, x.process(3, 0));
        return story.run(2);
    }

    private static void processes(UnixDesk x) {
        Check.sentence("BAD if there is none, or for others.");
        for (int pid = 1; pid <= 3; pid++) {
            for (int what : new int[] {MIN, -10, -1, 9, 14, 15, 20, MAX}) Check.due("what " + what, BAD, x.process(pid, what));
        }
        for (int pid : new int[] {MIN, -1, 0, 4, 8, MAX}) {
            for (int what : new int[] {0, 1, 5, 8, 10, 13}) Check.due("pid " + pid, BAD, x.process(pid, what));
        }
        Check.sentence("5 its status (0 if it is no ZOMBIE)");
        Check.due("READY", 0, x.process(1, 5));
        Check.due("BLOCKED", 0, x.process(2, 5));
        Check.due("ZOMBIE", 9, x.process(3, 5));
    }

    private static void pages(UnixDesk x) {
        Check.sentence("The word at an address of a process; 0 if there is none.");
        Check.due("the last word", 7, x.memory(2, 7));
        for (int address : new int[] {MIN, -1, 8, 31, 32, MAX}) Check.due("address " + address, 0, x.memory(2, address));
        for (int pid : new int[] {MIN, -1, 0, 3, 4, MAX}) Check.due("pid " + pid, 0, x.memory(pid, 7));
        Check.sentence("How many pages have the frame of a page of a process (this one too); 0 if there is none.");
        Check.due("the last page", 1, x.sharing(2, 1));
        for (int page : new int[] {MIN, -1, 2, 7, 8, MAX}) Check.due("page " + page, 0, x.sharing(2, page));
        for (int pid : new int[] {MIN, -1, 0, 3, 4, MAX}) Check.due("pid " + pid, 0, x.sharing(pid, 0));
    }

    private static void descriptors(UnixDesk x) {
        Check.sentence("BAD if there is no such process (or it is a ZOMBIE), descriptor or what, or 1 to 3 of a free one.");
        int[][] due = {{2, -1, 0, 1}, {3, -1, 0, 1}, {1, 0, 2, 1}, {0, BAD, BAD, BAD}, {0, BAD, BAD, BAD}, {0, BAD, BAD, BAD}};
        for (int d = 0; d <= 5; d++) {
            for (int what = 0; what <= 3; what++) Check.due("what " + what + " of " + d, due[d][what], x.descriptor(2, d, what));
            for (int what : new int[] {MIN, -1, 4, MAX}) Check.due("what " + what + " of " + d, BAD, x.descriptor(2, d, what));
        }
        for (int d : new int[] {MIN, -1, 6, 7, MAX}) {
            for (int what = 0; what <= 3; what++) Check.due("descriptor " + d, BAD, x.descriptor(2, d, what));
        }
        for (int pid : new int[] {MIN, -1, 0, 3, 4, MAX}) {
            for (int d = 0; d <= 5; d++) Check.due("pid " + pid, BAD, x.descriptor(pid, d, 0));
        }
    }

    private static void files(UnixDesk x) {
        Check.sentence("The file of a name; -1 if it is none.");
        for (int k = -1; k <= 8; k++) Check.due("name " + k, k == 0 || k == 7 ? 0 : -1, x.name(k));
        for (int k : new int[] {MIN, MAX}) Check.due("name " + k, -1, x.name(k));
        Check.sentence("Of a file what 0: its size, 1: how many names, 2: how many open files; BAD if it is FREE, or for others.");
        int[] due = {2, 2, 1};
        for (int what = 0; what <= 2; what++) Check.due("what " + what, due[what], x.file(0, what));
        for (int what : new int[] {MIN, -1, 3, 4, MAX}) Check.due("what " + what, BAD, x.file(0, what));
        for (int i : new int[] {MIN, -1, 1, 7, 8, MAX}) {
            for (int what = 0; what <= 2; what++) Check.due("file " + i, BAD, x.file(i, what));
        }
        Check.sentence("Word k of a file; 0 if there is none.");
        Check.due("word 0", 33, x.word(0, 0));
        Check.due("word 1", 34, x.word(0, 1));
        for (int k : new int[] {MIN, -1, 2, 15, 16, MAX}) Check.due("word " + k, 0, x.word(0, k));
        for (int i : new int[] {MIN, -1, 1, 7, 8, MAX}) Check.due("file " + i, 0, x.word(i, 0));
    }

    private static void totals(UnixDesk x) {
        Check.sentence("BAD for others.");
        for (int what : new int[] {MIN, -1, 11, 12, MAX}) Check.due("what " + what, BAD, x.total(what));
        int[] due = {3, 20 - 3, 15, 7, 1, x.total(5), 1, 4, 3, 1, 3};
        for (int what = 0; what <= 10; what++) Check.due("what " + what, due[what], x.total(what));
        Check.sentence("9: the pid of the latest step (0 if there was none since the boot), 10: the greatest pid since the latest boot "
            + "(0 at first)");
        Story begin = Story.begin();
        int[] latest = {begin.told().total(9), begin.boot(0).told().total(9), begin.boot(0).run(1).told().total(9)};
        int[] greatest = {begin.told().total(10), begin.boot(0).told().total(10), begin.boot(0).run(1).told().total(10)};
        for (int k = 0; k < 3; k++) {
            Check.due("latest " + k, k == 2 ? 1 : 0, latest[k]);
            Check.due("greatest " + k, k == 0 ? 0 : 1, greatest[k]);
        }
        Story second = Story.child(Code.go(3)).run(3);
        Check.due("latest", 2, second.told().total(9));
        Check.due("greatest", 2, second.told().total(10));
        Check.due("latest behind a boot", 0, second.crash(2).boot(0).told().total(9));
        Check.due("greatest behind a boot", 1, second.crash(2).boot(0).told().total(10));
        // A pid that is no more was the greatest one all the same.
        Story gone = Story.boot(Code.call(Code.FORK), Code.zero(0, 3), Code.call(Code.WAIT)).until(1, 3);
        Check.due("process 2 is no more", BAD, gone.told().process(2, 0));
        Check.due("greatest", 2, gone.told().total(10));
    }

    private static void said() {
        Check.sentence("The k-th latest (0 first) of the ints that were said, of up to 16; 0 if there is none.");
        Story say = Story.boot(Code.set(1, 1), Code.add(0, 1), Code.call(Code.SAY), Code.go(1)).run(2);
        for (int count = 0; count <= 34; count++) {
            UnixDesk x = say.told();
            Check.due("how many", count, x.total(6));
            for (int k = 0; k <= 17; k++) Check.due("said " + k + " of " + count, k < Math.min(count, 16) ? count - k : 0, x.said(k));
            for (int k : new int[] {MIN, -1, MAX}) Check.due("said " + k, 0, x.said(k));
            say = say.run(3);
        }
        Check.sentence("16 SAY R0: gives it.");
        for (int value : new int[] {MIN, -1, 0, 1, MAX}) {
            Story before = Story.boot(Code.set(0, value), Code.call(Code.SAY)).run(1);
            Look.at(before).gave(1, value).but("said(0)", value).but(Look.total(6), 1).due("SAY " + value, before.run(1));
        }
        Story kept = Story.boot(Code.set(0, 5), Code.call(Code.SAY), Code.call(Code.SAY)).run(200, 4);
        Check.due("it outlasts the process", 5, kept.told().said(1));
        Check.due("and a boot", 5, kept.boot(0).told().said(1));
        Check.due("and a crash", 5, kept.boot(0).crash(1).told().said(1));
        Check.due("and counts on", 4, kept.boot(0).run(3).told().total(6));
    }

    private static void newObject() {
        Check.sentence("Empty programs, no processes, no names; TIME 0.");
        Story begin = Story.begin();
        Look look = Look.at(begin);
        int[] totals = {0, 20, 16, 8, 0, 0, 0, 0, 0, 0, 0};
        for (int what = 0; what <= 10; what++) Check.due("total " + what, totals[what], look.answer(Look.total(what)));
        for (int k = 0; k < 8; k++) Check.due("name " + k, -1, look.answer(Look.name(k)));
        for (int k = 0; k < 8; k++) Check.due("file " + k, BAD, look.answer(Look.file(k, 0)));
        for (int k = 0; k < 6; k++) Check.due("program " + k, 0, look.answer("clear(" + k + ")"));
        for (int pid = 1; pid <= 10; pid++) Check.due("process " + pid, BAD, look.answer(Look.process(pid, 0)));
        look.due("another new object", Story.begin());
    }

    public static void main(String[] args) {
        newObject();
        Story life = life();
        processes(life.told());
        pages(life.told());
        descriptors(life.told());
        files(life.told());
        totals(life.told());
        said();
        Check.finish();
    }
}
