/** The edges of CHANGES, COMMIT and crash. */
public final class SafeEdgesTest {
    /** One CHANGE by OPEN in 3 steps, then two in each 6 steps: a LINK with the third, an UNLINK with the fifth. */
    private static final Object[] CHANGING = {Code.call(Code.OPEN, 0, 7), Code.call(Code.LINK, 0, 1),
        Code.call(Code.UNLINK, 1), Code.go(3)};

    /** How many steps of CHANGING there are before that which does the n-th CHANGE, from the second one on. */
    private static int stepsBefore(int n) {
        return 3 + (n - 2) / 2 * 6 + (n % 2 == 0 ? 2 : 4);
    }

    private static Look changed(Look look, int n) {
        boolean link = n % 2 == 0;
        look = look.gave(1, 0).but(Look.name(1), link ? 0 : -1).but(Look.file(0, 1), link ? 2 : 1);
        return look.more(Look.total(7), 1);
    }

    private static void thirtieth() {
        Check.sentence("also after the 30th of them, CHANGES are 0, and names and files are SAFE as they are then.");
        Story story = Story.boot(CHANGING);
        for (int n = 2; n <= 91; n++) {
            Story before = story.run(Math.min(200, stepsBefore(n)));
            before = stepsBefore(n) > 200 ? before.run(stepsBefore(n) - 200) : before;
            Look due = changed(Look.at(before), n);
            if (n % 30 == 0) due = due.committed();
            Check.due("CHANGES", n % 30, due.answer(Look.total(7)));
            due.due("CHANGE " + n, before.run(1));
        }
    }

    /** Calls with their arguments, and how many CHANGES there are behind each. */
    private static void counts(Story story, int[]... calls) {
        for (int[] c : calls) {
            story = story.run(3);
            Check.due("CHANGES behind call " + c[0] + " with " + c[1] + ", " + c[2], c[3], story.told().total(7));
        }
    }

    private static Story ofCalls(int[]... calls) {
        int[][] code = {};
        for (int[] c : calls) code = Code.join(code, Code.call(c[0], c[1], c[2]));
        return Story.boot(code, Code.go(code.length));
    }

    private static void whatCounts() {
        Check.sentence("CHANGES are words written to files, files made or emptied (one by one OPEN), LINKS and UNLINKS.");
        int[][] open = {{Code.OPEN, 0, 15, 1}, {Code.OPEN, 0, 11, 2}, {Code.OPEN, 0, 7, 2}, {Code.OPEN, 0, 1, 2},
            {Code.OPEN, 1, 3, 2}, {Code.OPEN, 1, 6, 3}, {Code.OPEN, 2, 4, 3}};
        counts(ofCalls(open), open);
        int[][] use = {{Code.OPEN, 0, 7, 1}, {Code.WRITE, 0, 9, 2}, {Code.SEEK, 0, 0, 2}, {Code.READ, 0, 0, 2},
            {Code.DUP, 0, 0, 2}, {Code.WRITE, 1, 9, 3}, {Code.CLOSE, 0, 0, 3}};
        counts(ofCalls(use), use);
        int[][] names = {{Code.OPEN, 0, 7, 1}, {Code.LINK, 0, 1, 2}, {Code.LINK, 0, 1, 2}, {Code.UNLINK, 0, 0, 3},
            {Code.UNLINK, 0, 0, 3}, {Code.UNLINK, 1, 0, 4}, {Code.WRITE, 0, 5, 5}};
        counts(ofCalls(names), names);
        int[][] others = {{Code.OPEN, 0, 7, 1}, {Code.PIPE, 0, 0, 1}, {Code.WRITE, 2, 5, 1}, {Code.COMMIT, 0, 0, 0},
            {Code.COMMIT, 0, 0, 0}, {Code.WRITE, 0, 5, 1}};
        counts(ofCalls(others), others);
    }

    private static void commits() {
        Check.sentence("18 COMMIT: gives 0.");
        Edge.gives("with no CHANGES", Story.boot(Code.set(0, 5), Code.call(Code.COMMIT)).run(1), 1, 0);
        // 29 CHANGES, then a COMMIT: 29 more are none, and the 30th is one again.
        Story story = Story.begin().program(0, CHANGING).program(1, Code.set(0, 5), Code.call(Code.COMMIT), Code.set(2, 1),
            Code.call(Code.LINK, 0, 2), Code.call(Code.UNLINK, 2), Code.go(3)).boot(0).run(stepsBefore(29) + 1);
        Check.due("CHANGES", 29, story.told().total(7));
        story = story.crash(1);
        Check.due("CHANGES behind a crash", 0, story.told().total(7));
        Check.due("nothing is SAFE", -1, story.told().name(0));
        Story made = story.clear(0, 9).program(0, Code.call(Code.OPEN, 0, 7), Code.call(Code.WRITE, 0, 9),
            Code.call(Code.EXEC, 1)).boot(0).run(9);
        Check.due("CHANGES", 2, made.told().total(7));
        Look.at(made).gave(1, 0).committed().due("COMMIT", made.run(1));
        Story more = made.run(1).run(1 + 14 * 6 + 2);
        Check.due("CHANGES", 28, more.told().total(7));
        Look due = Look.at(more).gave(1, 0).but(Look.name(2), 0).but(Look.file(0, 1), 2).but(Look.total(7), 29);
        due.due("the 29th", more.run(1));
        Story last = more.run(2);
        due = Look.at(last).gave(1, 0).but(Look.name(2), -1).but(Look.file(0, 1), 1);
        due.committed().due("the 30th", last.run(1));
    }

    private static void whatIsSafe() {
        Check.sentence("names and files are as they were SAFE (without those that had no name)");
        // File 0 has names 0 and 1 and three words, file 1 none, but is open, file 2 name 5 and no word.
        Story safe = Story.boot(Code.set(1, 7), Code.call(Code.OPEN, 0), Code.call(Code.OPEN, 3), Code.call(Code.OPEN, 5),
            Code.call(Code.WRITE, 0, 9), Code.call(Code.WRITE, 1, 8), Code.call(Code.LINK, 0, 1), Code.call(Code.UNLINK, 3),
            Code.call(Code.COMMIT)).run(18);
        Look.at(safe).gave(1, 0).committed().due("COMMIT", safe.run(1));
        Story committed = safe.run(1);
        Look.at(committed).crashed().due("crash", committed.crash(1));
        Check.due("file without a name", Edge.BAD, committed.crash(1).told().file(1, 0));
        Check.due("file of two names", 2, committed.crash(1).told().file(0, 1));
        Check.due("file of no words", 0, committed.crash(1).told().file(2, 0));
        Edge.unchanged("a second crash", committed.crash(1), committed.crash(1).crash(0));
        // Then all of it is changed: words, sizes, names, and file 1 is another one.
        Story later = committed.run(1).again(19, Code.call(Code.OPEN, 0, 10), Code.call(Code.OPEN, 6, 7),
            Code.call(Code.WRITE, 1, 4), Code.call(Code.UNLINK, 1), Code.call(Code.UNLINK, 5), Code.call(Code.LINK, 6, 5))
            .run(16);
        Check.due("file 1 is another one", 1, later.told().name(6));
        Look.at(later).crashed().due("crash", later.crash(1));
        Check.due("name 6", -1, later.crash(1).told().name(6));
        Check.due("name 5", 2, later.crash(1).told().name(5));
        Check.due("word", 9, later.crash(1).told().word(0, 0));
        // What a crash brought back can be changed and committed again.
        Story next = later.crash(1).again(16, Code.call(Code.UNLINK, 0), Code.call(Code.COMMIT)).run(2);
        Look.at(next.run(1)).crashed().due("crash before the COMMIT", next.run(1).crash(1));
        Look.at(next).gave(1, 0).committed().due("COMMIT", next.run(1));
        Check.due("name 0", -1, next.run(1).crash(1).told().name(0));
    }

    private static void fullDisk() {
        Check.sentence("names and files are SAFE as they are then");
        Story story = Story.begin();
        int length = 0;
        for (int name = 0; name < 4; name++) {
            story = story.again(length, Code.call(Code.OPEN, name, 7), Code.set(0, 0), Code.call(Code.WRITE), Code.zero(0, 7),
                Code.go(3), Code.call(Code.OPEN, name + 4, 6), Code.call(Code.COMMIT));
            length = 11;
            story = story.run(200, 3 + 4 * 16 + 3 + 3 + 1 + 1);
        }
        Check.due("FREE files", 0, story.told().total(3));
        Check.due("FREE blocks", 0, story.told().total(2));
        Edge.unchanged("crash without a process", story, story.crash(0));
        Story emptied = story.again(length, Code.call(Code.OPEN, 0, 10), Code.call(Code.UNLINK, 1), Code.call(Code.OPEN, 1, 7),
            Code.call(Code.WRITE, 1, 3), Code.go(11)).run(11);
        Look.at(emptied).crashed().due("crash", emptied.crash(1));
        Check.due("FREE blocks", 0, emptied.crash(1).told().total(2));
    }

    private static void crashes() {
        Check.sentence("All processes, open files and pipes are no more");
        Edge.unchanged("a new object", Story.begin(), Story.begin().crash(0));
        Story one = Story.boot(Code.call(Code.PIPE), Code.call(Code.GROW, 7), Code.go(3)).run(4);
        Look.at(one).crashed().due("one process", one.crash(1));
        Story sleeping = Story.eight(Code.call(Code.SLEEP, 1000), Code.call(Code.PIPE)).run(1);
        Look.at(sleeping).crashed().due("eight that sleep", sleeping.crash(8));
        Story zombies = Story.eight(Code.call(Code.EXIT, 3), Code.call(Code.PIPE)).run(1);
        Look.at(zombies).crashed().due("seven ZOMBIES and their parent", zombies.crash(8));
        int[][] pipes = {Code.call(Code.PIPE), Code.call(Code.PIPE), Code.call(Code.PIPE)};
        int[][] open = Code.join(Code.call(Code.GROW, 7), Code.call(Code.OPEN, 0, 7));
        Story three = Story.three(pipes, open, Code.call(Code.PIPE), Code.call(Code.OPEN, 3, 7)).run(4);
        Look.at(three).crashed().due("pipes and open files", three.crash(3));
        Check.sentence("crash: CHANGES are 0 then; TIME, what was said, and what 9 and 10 of total stay.");
        Story said = Story.child(Code.call(Code.SAY, 5), Code.call(Code.OPEN, 0, 7), Code.call(Code.SLEEP, 500)).run(7);
        said = said.run(1);
        UnixDesk x = said.crash(2).told();
        int[] due = {0, 20, 16, 8, 0, 512, 1, 0, 0, 2, 2};
        for (int what = 0; what <= 10; what++) Check.due("total(" + what + ")", due[what], x.total(what));
        Check.due("said", 5, x.said(0));
        Look.at(said).crashed().due("crash", said.crash(2));
    }

    public static void main(String[] args) {
        thirtieth();
        whatCounts();
        commits();
        whatIsSafe();
        fullDisk();
        crashes();
        Check.finish();
    }
}
