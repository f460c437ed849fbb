/** The edges of descriptors, open files and pipes: PIPE, READ, WRITE, CLOSE and DUP. */
public final class PipeEdgesTest {
    private static final int MIN = Edge.MIN, MAX = Edge.MAX;
    private static final int[] NO_DESCRIPTOR = {-1, 6, MIN, MAX};

    private static int[][] pipes(int count) {
        int[][] code = {};
        for (int k = 0; k < count; k++) code = Code.join(code, Code.call(Code.PIPE));
        return code;
    }

    private static void descriptors() {
        Check.sentence("6 DESCRIPTORS 0..5 (each an OPEN FILE, or free)");
        for (int used = 0; used <= 6; used++) {
            Story before = Story.boot(Code.opens(used), Code.call(Code.PIPE)).run(1 + 2 * used);
            if (used <= 4) {
                Look.at(before).piped(1, used, used + 1).due(used + " are used", before.run(1));
            } else {
                Edge.refused(used + " are used", before, 1);
            }
        }
        // The same while the processes in the next slots have all descriptors free.
        Object[] none = {};
        int[][] calls = {{Code.PIPE, 0, 0}, {Code.DUP, 0, 0}, {Code.OPEN, 0, 7}};
        for (int[] c : calls) {
            Story full = Story.three(none, none, pipes(3), Code.call(c[0], c[1], c[2])).run(5);
            Edge.refused("call " + c[0] + " with six", full, 1);
        }
        for (int d = 0; d <= 5; d++) {
            Story one = Story.three(none, none, pipes(3), Code.call(Code.CLOSE, d), Code.call(Code.PIPE)).run(5);
            Edge.refused("PIPE with " + d + " free", one, 1);
        }
        Check.sentence("6 PIPE: the two least free descriptors, R0 and R1, are the ends of a new pipe for reading and writing.");
        int[][] closed = {{0, 1}, {1, 4}, {0, 5}, {4, 5}, {2, 3}};
        for (int[] c : closed) {
            Story before = Story.boot(Code.opens(6), Code.call(Code.CLOSE, c[1]), Code.call(Code.CLOSE, c[0]), Code.call(Code.PIPE))
                .run(17);
            Look.at(before).piped(1, c[0], c[1]).due(c[0] + " and " + c[1] + " are free", before.run(1));
        }
    }

    private static void fourPipes() {
        Check.sentence("Pipes (4) hold 4 words each");
        for (int others = 0; others <= 2; others++) {
            Story before = Story.three(pipes(others), pipes(1), Code.set(1, 44), Code.call(Code.PIPE)).run(1);
            Look.at(before).piped(1, 0, 1).due("one more than " + (others + 1), before.run(1));
        }
        Story full = Story.three(pipes(3), pipes(1), Code.set(1, 44), Code.call(Code.PIPE)).run(1);
        Check.due("pipes", 4, full.told().total(4));
        Check.due("open files", 8, full.told().total(8));
        Edge.refused("a fifth one", full, 1);
    }

    private static void twelveOpenFiles() {
        Check.sentence("There are at most 12 open files, each end is one.");
        Story ten = Story.three(Code.opens(6), Code.opens(4), Code.set(1, 44), Code.call(Code.PIPE)).run(1);
        Check.due("open files", 10, ten.told().total(8));
        Look.at(ten).piped(1, 0, 1).due("10, and two ends", ten.run(1));
        Story eleven = Story.three(Code.opens(6), Code.opens(5), Code.set(1, 44), Code.call(Code.PIPE)).run(1);
        Check.due("open files", 11, eleven.told().total(8));
        Edge.refused("11, and no two ends", eleven, 1);
        Story last = Story.three(Code.opens(6), Code.opens(5), (Object) Code.call(Code.OPEN, 0, 3)).run(2);
        Look due = Look.at(last).gave(1, 0).but(Look.total(8), 12).but(Look.file(0, 2), 12);
        due.holds(1, 0, 1, 0, 0, 1).due("11, and OPEN", last.run(1));
        Edge.refused("12, and PIPE", Story.three(Code.opens(6), Code.opens(6), Code.call(Code.PIPE)), 1);
        int[][] word = Code.join(Code.opens(6), Code.call(Code.WRITE, 0, 9));
        for (int[] open : new int[][] {{0, 3}, {0, 7}, {0, 10}, {0, 15}, {1, 7}, {7, 14}}) {
            Story full = Story.three(word, Code.opens(6), (Object) Code.call(Code.OPEN, open[0], open[1])).run(2);
            Check.due("open files", 12, full.told().total(8));
            Check.due("size", 1, full.told().file(0, 0));
            Edge.refused("12, and OPEN of " + open[0] + " with " + open[1], full, 1);
        }
        // DUP and FORK need no further open file.
        Story dup = Story.three(Code.opens(6), Code.opens(5), Code.call(Code.OPEN, 0, 3), Code.call(Code.DUP, 0), Code.call(Code.FORK));
        Story before = dup.run(4);
        due = Look.at(before).gave(1, 1).but(Look.descriptor(1, 0, 3), 2);
        due.holds(1, 1, 1, 0, 0, 2).due("12, and DUP", before.run(1));
        UnixDesk x = before.run(2).told();
        Check.due("12, and FORK", 4, x.total(0));
        Check.due("open files", 12, x.total(8));
        Check.due("holders", 4, x.descriptor(4, 1, 3));
    }

    /**
     * Process 1 opened the eldest open file, that it closes as the last thing; processes 2 and 3 opened so many then.
     * A call is next.
     */
    private static Story eldestIsClosed(int others, int[][] call) {
        int[][] close = Code.call(Code.CLOSE, 0);
        int[][] sleep = Code.call(Code.SLEEP, 1000);
        Story story = Story.begin().program(1, close, Code.opens(6), sleep).program(2, close, Code.opens(others - 6), sleep)
            .program(0, Code.set(1, 7), Code.call(Code.OPEN), Code.call(Code.FORK), Code.zero(0, 11), Code.call(Code.FORK),
                Code.zero(0, 13), Code.call(Code.SLEEP, 200), Code.call(Code.CLOSE), Code.set(2, 0), Code.go(15),
                Code.call(Code.EXEC, 1), Code.call(Code.EXEC, 2), call).boot(0).until(1, 14 + call.length);
        Check.due("open files", others, story.told().total(8));
        return story;
    }

    private static void anyTwoOpenFiles() {
        Check.sentence("There are at most 12 open files, each end is one.");
        Story ten = eldestIsClosed(10, new int[][] {Code.call(Code.PIPE)});
        Look.at(ten).piped(1, 0, 1).due("10, and two ends", ten.run(1));
        Edge.refused("11, and no two ends", eldestIsClosed(11, new int[][] {Code.call(Code.PIPE)}), 1);
        Story eleven = eldestIsClosed(11, Code.call(Code.OPEN, 0, 3)).run(1);
        Check.due("11, and OPEN", 0, eleven.told().process(1, 10));
        Check.due("12", 12, eleven.told().total(8));
    }

    private static void newIsEmpty() {
        Check.sentence("are the ends of a new pipe for reading and writing.");
        for (int words = 1; words <= 4; words++) {
            int[][] code = {Code.call(Code.PIPE)};
            for (int k = 0; k < words; k++) code = Code.join(code, Code.set(0, 1), Code.call(Code.WRITE));
            Story before = Story.boot(code, Code.call(Code.CLOSE, 0), Code.call(Code.CLOSE, 1), Code.call(Code.PIPE),
                Code.call(Code.READ)).run(2 * words + 6);
            Edge.blocks("a new pipe behind one with " + words + " words", before, 1);
        }
    }

    private static void noMore() {
        Check.sentence("one is no more if it has no open end");
        Story both = Story.boot(Code.call(Code.PIPE), Code.call(Code.DUP, 0), Code.call(Code.CLOSE, 0), Code.call(Code.CLOSE, 2),
            Code.call(Code.CLOSE, 1)).run(4);
        Look due = Look.at(both).gave(1, 0).closed(1, 0).but(Look.descriptor(1, 2, 3), 1);
        due.due("one of two descriptors of an end", both.run(1));
        Story one = both.run(2);
        Look.at(one).gave(1, 0).closed(1, 2).but(Look.total(8), 1).due("one end is closed", one.run(1));
        Story none = one.run(2);
        Look.at(none).gave(1, 0).closed(1, 1).but(Look.total(8), 0).but(Look.total(4), 0).due("both are", none.run(1));
        // The writing end first.
        Story other = Story.boot(Code.call(Code.PIPE), Code.call(Code.CLOSE, 1), Code.call(Code.CLOSE, 0)).run(2);
        Look.at(other).gave(1, 0).closed(1, 1).but(Look.total(8), 1).due("the end for writing is closed", other.run(1));
        Story gone = other.run(2);
        Look.at(gone).gave(1, 0).closed(1, 0).but(Look.total(8), 0).but(Look.total(4), 0).due("both are", gone.run(1));
        Check.sentence("an open file is no more only when no descriptor of any process has it");
        Story shared = Story.boot(Code.call(Code.PIPE), Code.call(Code.FORK), Code.call(Code.CLOSE, 1)).run(3);
        due = Look.at(shared).gave(1, 0).closed(1, 1).but(Look.descriptor(2, 1, 3), 1);
        due.due("another process has it", shared.run(1));
        Check.sentence("CLOSE makes the descriptor free, EXIT all those of the process");
        Story exit = Story.child(Code.call(Code.PIPE), Code.call(Code.DUP, 1), Code.opens(1), Code.call(Code.EXIT)).run(6);
        Check.due("open files", 3, exit.told().total(8));
        due = Look.at(exit).went(2).zombie(2, 3).but(Look.process(1, 0), 1).but(Look.sharing(1, 0), 1);
        due.but(Look.total(4), 0).but(Look.total(8), 0).but(Look.file(0, 2), 0).due("EXIT", exit.run(1));
    }

    private static void notForThis() {
        Check.sentence("A descriptor that is free, or not for this, fails.");
        // 0 and 1 are the ends of a pipe, 2 a file to read, 3 one to write, 4 and 5 are free.
        Object[] life = {Code.call(Code.PIPE), Code.call(Code.OPEN, 0, 5), Code.call(Code.OPEN, 0, 2)};
        int[][] wrong = {{Code.READ, 1}, {Code.READ, 3}, {Code.READ, 4}, {Code.READ, 5}, {Code.WRITE, 0}, {Code.WRITE, 2},
            {Code.WRITE, 4}, {Code.WRITE, 5}, {Code.CLOSE, 4}, {Code.CLOSE, 5}, {Code.DUP, 4}, {Code.DUP, 5}, {Code.SEEK, 0},
            {Code.SEEK, 1}, {Code.SEEK, 4}, {Code.SEEK, 5}};
        for (int[] w : wrong) {
            Edge.refused("call " + w[0] + " of " + w[1], Story.boot(Code.join(life), Code.call(w[0], w[1], 0)).run(9), 1);
        }
        for (int d : NO_DESCRIPTOR) {
            for (int call : new int[] {Code.READ, Code.WRITE, Code.CLOSE, Code.DUP, Code.SEEK}) {
                Edge.refused("call " + call + " of " + d, Story.boot(Code.join(life), Code.call(call, d, 0)).run(9), 1);
            }
        }
        Story twice = Story.boot(Code.call(Code.PIPE), Code.call(Code.CLOSE, 0), Code.call(Code.CLOSE, 0)).run(4);
        Edge.refused("CLOSE twice", twice, 1);
    }

    private static void dups() {
        Check.sentence("10 DUP R0: the least free descriptor is the same open file.");
        for (int used = 1; used <= 6; used++) {
            Story before = Story.boot(Code.opens(used), Code.call(Code.DUP, used - 1)).run(2 + 2 * used);
            if (used == 6) {
                Edge.refused("none is free", before, 1);
            } else {
                Look due = Look.at(before).gave(1, used).but(Look.descriptor(1, used - 1, 3), 2);
                due.holds(1, used, 1, 0, 0, 2).due("DUP of " + (used - 1), before.run(1));
            }
        }
        Check.sentence("DUP gives the descriptor that it took.");
        for (int d = 0; d <= 5; d++) {
            Story one = Story.boot(Code.opens(6), Code.call(Code.CLOSE, d), Code.call(Code.DUP, (d + 1) % 6)).run(16);
            Look due = Look.at(one).gave(1, d).but(Look.descriptor(1, (d + 1) % 6, 3), 2);
            due.holds(1, d, 1, 0, 0, 2).due("only " + d + " is free", one.run(1));
        }
        Story between = Story.boot(Code.opens(6), Code.call(Code.CLOSE, 2), Code.call(Code.CLOSE, 4), Code.call(Code.DUP, 5),
            Code.call(Code.DUP, 5), Code.call(Code.DUP, 5)).run(19);
        UnixDesk x = between.told();
        Check.due("the least free one", 2, x.process(1, 10));
        Check.due("run", 2, x.run(2));
        Check.due("the next one", 4, x.process(1, 10));
        Check.due("holders", 3, x.descriptor(1, 5, 3));
        Edge.refused("none is free", between.run(3), 1);
    }

    /** Four words from one place of a pipe to the next: however many went through it before, it holds four, in order. */
    private static void fourWords() {
        int[] words = {MIN, -1, 0, MAX};
        int[][] rest = {};
        for (int word : words) rest = Code.join(rest, Code.call(Code.WRITE, 1, word));
        int[][] write = Code.join(rest, Code.call(Code.WRITE, 1, 5), Code.call(Code.EXEC, 2));
        int[][] read = {};
        for (int k = 0; k < 4; k++) read = Code.join(read, Code.call(Code.READ, 0));
        read = Code.join(read, Code.call(Code.READ, 0));
        for (int before = 0; before <= 4; before++) {
            int[][] code = {Code.call(Code.PIPE)};
            for (int k = 0; k < before; k++) code = Code.join(code, Code.call(Code.WRITE, 1, 60 + k), Code.call(Code.READ, 0));
            Story story = Story.begin().program(0, code, Code.call(Code.EXEC, 1)).program(1, (Object) write).boot(0)
                .run(3 + 5 * before);
            Check.sentence("To a pipe: behind the others");
            for (int k = 0; k < 4; k++) {
                story = story.run(2);
                Edge.gives("word " + k + " behind " + before, story, 1, 1);
                story = story.run(1);
            }
            Check.sentence("BLOCKED while it is full.");
            Edge.blocks("a fifth word behind " + before, story.run(2), 1);
            Check.sentence("From a pipe: the eldest");
            story = Story.begin().program(0, code, Code.call(Code.EXEC, 1)).program(1, rest, Code.call(Code.EXEC, 2))
                .program(2, (Object) read).boot(0).run(3 + 5 * before + 12 + 2);
            for (int k = 0; k < 4; k++) {
                story = story.run(1);
                Look due = Look.at(story).gave(1, 1).but(Look.process(1, 11), words[k]);
                due.due("word " + k + " behind " + before, story.run(1));
                story = story.run(1);
            }
            Check.sentence("BLOCKED while it is empty.");
            Edge.blocks("empty behind " + before, story.run(1), 1);
        }
    }

    private static void endOfPipe() {
        Check.sentence("the end if it is empty and has no open end for writing");
        Story empty = Story.boot(Code.call(Code.PIPE), Code.call(Code.CLOSE, 1), Code.call(Code.READ, 0, 7), Code.set(0, 0),
            Code.call(Code.READ)).run(5);
        Edge.gives("empty", empty, 1, 0);
        Edge.gives("and again", empty.run(2), 1, 0);
        Story word = Story.boot(Code.call(Code.PIPE), Code.call(Code.WRITE, 1, 8), Code.call(Code.CLOSE, 1),
            Code.call(Code.READ, 0, 7), Code.call(Code.READ, 0, 7)).run(8);
        Look.at(word).gave(1, 1).but(Look.process(1, 11), 8).due("a word is left", word.run(1));
        Edge.gives("none is left", word.run(3), 1, 0);
        Check.sentence("BLOCKED while it is empty.");
        Edge.blocks("its own end for writing", Story.boot(Code.call(Code.PIPE), Code.call(Code.READ, 0, 7)).run(3), 1);
        Story dup = Story.boot(Code.call(Code.PIPE), Code.call(Code.DUP, 1), Code.call(Code.CLOSE, 1), Code.call(Code.READ, 0));
        Edge.blocks("a second descriptor of it", dup.run(6), 1);
        Story other = Story.boot(Code.call(Code.PIPE), Code.call(Code.FORK), Code.call(Code.CLOSE, 1), Code.call(Code.READ))
            .run(4);
        Edge.blocks("the end for writing of another process", other, 1);
    }

    private static void brokenPipe() {
        Check.sentence("KILLED if it has no open end for reading");
        for (int words = 0; words <= 4; words++) {
            int[][] code = {Code.call(Code.PIPE)};
            for (int k = 0; k < words; k++) code = Code.join(code, Code.set(0, 1), Code.call(Code.WRITE));
            Story before = Story.child(code, Code.call(Code.CLOSE, 0), Code.call(Code.WRITE, 1, 5), Code.go(18))
                .run(1 + 2 * words + 4);
            Look due = Look.at(before).went(2).zombie(2, -1).but(Look.process(1, 0), 1).but(Look.sharing(1, 0), 1);
            due.but(Look.total(4), 0).but(Look.total(8), 0).due("with " + words + " words in it", before.run(1));
        }
        Story other = Story.boot(Code.call(Code.PIPE), Code.call(Code.FORK), Code.zero(0, 4), Code.call(Code.WAIT),
            Code.call(Code.CLOSE, 0), Code.set(0, 1), Code.call(Code.WRITE)).until(2, 7);
        Edge.gives("another process has an end for reading", other, 2, 1);
    }

    /** Process 1 sleeps, then does two instructions and waits; process 2, behind it, is BLOCKED at place 11. */
    private static Story blockedChild(int[][] first, int[] second) {
        Story story = Story.boot(Code.call(Code.PIPE), Code.call(Code.FORK), Code.zero(0, 8), Code.call(Code.SLEEP, 60), first,
            Code.call(Code.WAIT), Code.call(Code.CLOSE, 1 - second[1]), Code.set(0, second[1]), Code.call(second[0]),
            Code.go(10)).until(1, 6);
        Check.due("BLOCKED", 2, story.told().process(2, 0));
        Check.due("at", 11, story.told().process(2, 3));
        return story;
    }

    private static void readyAgain() {
        Check.sentence("the process is READY again when it can go on (or would be KILLED, or fail), and does the call then.");
        // Process 2 reads; R1 of both is 1, as PIPE left it.
        int[] reads = {Code.READ, 0};
        Story word = blockedChild(Code.call(Code.WRITE, 1), reads);
        Look.at(word).gave(1, 1).but(Look.process(2, 0), 1).due("a word comes", word.run(1));
        Edge.gives("the word", word.run(2), 2, 1);
        Story end = blockedChild(Code.call(Code.CLOSE, 1), reads);
        Look due = Look.at(end).gave(1, 0).closed(1, 1).but(Look.total(8), 1).but(Look.process(2, 0), 1);
        due.due("the last end for writing goes", end.run(1));
        Edge.gives("the end", end.run(2), 2, 0);
        // Process 2 writes until the pipe is full.
        int[] writes = {Code.WRITE, 1};
        Story room = blockedChild(Code.call(Code.READ, 0), writes);
        Look.at(room).gave(1, 1).but(Look.process(2, 0), 1).due("there is room", room.run(1));
        Edge.gives("the word that waited", room.run(2), 2, 1);
        Story broken = blockedChild(Code.call(Code.CLOSE, 0), writes);
        due = Look.at(broken).gave(1, 0).closed(1, 0).but(Look.total(8), 1).but(Look.process(2, 0), 1);
        due.due("the last end for reading goes", broken.run(1));
        due = Look.at(broken.run(2)).went(2).zombie(2, -1).but(Look.process(1, 0), 1).but(Look.sharing(1, 0), 1);
        due.but(Look.descriptor(1, 1, 3), 1).due("KILLED then", broken.run(3));
    }

    public static void main(String[] args) {
        descriptors();
        fourPipes();
        twelveOpenFiles();
        anyTwoOpenFiles();
        newIsEmpty();
        noMore();
        notForThis();
        dups();
        fourWords();
        endOfPipe();
        brokenPipe();
        readyAgain();
        Check.finish();
    }
}
