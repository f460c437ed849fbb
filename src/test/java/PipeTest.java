/** PIPE, and READ, WRITE, CLOSE, DUP and SEEK of the ends of pipes; promise 10 of them. */
public final class PipeTest {
    private static void ends() {
        UnixDesk x = Code.after(2, Code.call(Code.PIPE), Code.call(Code.PIPE), Code.go(2));
        int[][] due = {{2, -1, 0, 1}, {3, -1, 0, 1}, {2, -1, 0, 1}, {3, -1, 0, 1}};
        for (int d = 0; d < due.length; d++) {
            for (int what = 0; what < 4; what++) {
                Check.due("descriptor " + d + ", " + what, due[d][what], x.descriptor(1, d, what));
            }
        }
        Check.due("R0", 2, x.process(1, 10));
        Check.due("R1", 3, x.process(1, 11));
        Check.due("pipes", 2, x.total(4));
        Check.due("open files", 4, x.total(8));
        UnixDesk y = Code.after(4, Code.call(Code.PIPE), Code.call(Code.CLOSE, 0), Code.call(Code.PIPE), Code.go(4));
        Check.due("the least free one", 0, y.process(1, 10));
        Check.due("the next one", 2, y.process(1, 11));
        Check.due("reading", 2, y.descriptor(1, 0, 0));
        Check.due("old end for writing", 3, y.descriptor(1, 1, 0));
        Check.due("writing", 3, y.descriptor(1, 2, 0));
    }

    private static void tooFewDescriptors() {
        UnixDesk x = Code.after(6, Code.call(Code.PIPE), Code.call(Code.PIPE), Code.call(Code.PIPE), Code.set(1, 44),
            Code.call(Code.PIPE), Code.go(5));
        Check.due("none is free", -1, x.process(1, 10));
        Check.due("R1 stays", 44, x.process(1, 11));
        UnixDesk y = Code.after(8, Code.call(Code.PIPE), Code.call(Code.PIPE), Code.call(Code.PIPE),
            Code.call(Code.CLOSE, 3), Code.set(1, 44), Code.call(Code.PIPE), Code.go(7));
        Check.due("one is free", -1, y.process(1, 10));
        Check.due("R1 stays", 44, y.process(1, 11));
        Check.due("it stays free", 0, y.descriptor(1, 3, 0));
        Check.due("open files", 5, y.total(8));
        Check.due("pipes", 3, y.total(4));
    }

    private static void totals(String what, UnixDesk x, int pipes, int openFiles) {
        Check.due(what + ": pipes", pipes, x.total(4));
        Check.due(what + ": open files", openFiles, x.total(8));
    }

    /** Process 1 keeps two pipes open; process 2 closes descriptors of its own and makes pipes until there are four. */
    private static void fourPipes() {
        UnixDesk x = Code.booted(
            Code.call(Code.PIPE), Code.call(Code.PIPE), Code.call(Code.FORK), Code.zero(0, 5), Code.go(4),
            Code.call(Code.CLOSE, 0), Code.call(Code.CLOSE, 1), Code.call(Code.PIPE), Code.call(Code.PIPE),
            Code.call(Code.CLOSE, 2), Code.call(Code.CLOSE, 3), Code.set(1, 44), Code.call(Code.PIPE),
            Code.call(Code.CLOSE, 0), Code.call(Code.CLOSE, 1), Code.call(Code.PIPE), Code.go(22));
        Check.due("run", 17, x.run(17));
        totals("four", x, 4, 8);
        Check.due("run", 11, x.run(11));
        Check.due("no fifth pipe", -1, x.process(2, 10));
        Check.due("R1 stays", 44, x.process(2, 11));
        totals("still four", x, 4, 8);
        Check.due("run", 2, x.run(2));
        totals("one end is closed", x, 4, 7);
        Check.due("run", 7, x.run(7));
        totals("both are", x, 3, 6);
        Check.due("run", 1, x.run(1));
        totals("four again", x, 4, 8);
        Check.due("R0", 0, x.process(2, 10));
        Check.due("R1", 1, x.process(2, 11));
    }

    private static void wordsInOrder() {
        UnixDesk x = Code.booted(
            Code.call(Code.PIPE), Code.call(Code.WRITE, 1, 10), Code.call(Code.WRITE, 1, 20), Code.call(Code.WRITE, 1, 30),
            Code.call(Code.READ, 0), Code.call(Code.READ, 0), Code.call(Code.READ, 0), Code.go(16));
        Check.due("run", 4, x.run(4));
        Check.due("WRITE gives 1", 1, x.process(1, 10));
        Check.due("R1 stays", 10, x.process(1, 11));
        Check.due("run", 6, x.run(6));
        int[] words = {10, 20, 30};
        for (int word : words) {
            Check.due("run", 2, x.run(2));
            Check.due("READ gives 1", 1, x.process(1, 10));
            Check.due("the eldest", word, x.process(1, 11));
        }
    }

    /** More words than it holds go through a pipe, so that its room is used again. */
    private static void manyWords() {
        UnixDesk x = Code.booted(
            Code.call(Code.PIPE), Code.call(Code.FORK), Code.zero(0, 9),
            Code.set(1, 1), Code.add(2, 1), Code.move(1, 2), Code.set(0, 1), Code.go(14),
            Code.set(0, 0), Code.call(Code.READ), Code.move(0, 1), Code.go(16),
            Code.call(Code.WRITE), Code.go(3), Code.call(Code.SAY), Code.go(9));
        x.run(200);
        x.run(200);
        int said = x.total(6);
        Check.due("many were said", true, said > 20);
        for (int k = 0; k < 16; k++) {
            Check.due("said " + k, said - k, x.said(k));
        }
    }

    private static void blockedReader() {
        UnixDesk x = Code.booted(
            Code.call(Code.PIPE), Code.call(Code.FORK), Code.zero(0, 8), Code.call(Code.SLEEP, 30),
            Code.call(Code.WRITE, 1, 55), Code.call(Code.READ, 0, 7), Code.go(11));
        Check.due("run", 5 + 4, x.run(9));
        Check.due("BLOCKED", 2, x.process(2, 0));
        Check.due("at the READ", 10, x.process(2, 3));
        Check.due("R0 stays", 0, x.process(2, 10));
        Check.due("R1 stays", 7, x.process(2, 11));
        Check.due("steps", 4, x.process(2, 7));
        Check.due("run", 4, x.run(4));
        Check.due("READY when there is a word", 1, x.process(2, 0));
        Check.due("not yet done", 7, x.process(2, 11));
    }

    /** Two blocked readers, one word: when one has taken it the other one is BLOCKED again without a step. */
    private static void twoReaders() {
        UnixDesk x = Code.booted(
            Code.call(Code.PIPE), Code.call(Code.FORK), Code.zero(0, 9), Code.call(Code.FORK), Code.zero(0, 9),
            Code.call(Code.WRITE, 1, 55), Code.go(8), Code.set(0, 0), Code.call(Code.READ), Code.go(11));
        Check.due("run", 5 + 3 + 3, x.run(11));
        Check.due("2 is BLOCKED", 2, x.process(2, 0));
        Check.due("3 is BLOCKED", 2, x.process(3, 0));
        Check.due("run", 3, x.run(3));
        Check.due("2 is READY", 1, x.process(2, 0));
        Check.due("3 is READY", 1, x.process(3, 0));
        Check.due("run", 2 + 1, x.run(3));
        Check.due("2 has the word", 55, x.process(2, 11));
        Check.due("3 is BLOCKED again", 2, x.process(3, 0));
        Check.due("steps of 3", 3, x.process(3, 7));
        Check.due("run", 20, x.run(20));
        Check.due("steps of 3 stay", 3, x.process(3, 7));
    }

    private static void endOfPipe() {
        UnixDesk x = Code.booted(
            Code.call(Code.PIPE), Code.call(Code.WRITE, 1, 8), Code.call(Code.CLOSE, 1), Code.call(Code.READ, 0),
            Code.call(Code.READ, 0, 7), Code.go(11));
        Check.due("run", 8, x.run(8));
        Check.due("the word is there yet", 8, x.process(1, 11));
        Check.due("run", 3, x.run(3));
        Check.due("0 at the end", 0, x.process(1, 10));
        Check.due("R1 stays", 7, x.process(1, 11));
        Check.due("the pipe is there", 1, x.total(4));
        // The last end for writing goes with the EXIT of another process: the blocked reader is READY then.
        UnixDesk y = Code.booted(
            Code.call(Code.PIPE), Code.call(Code.FORK), Code.zero(0, 8), Code.call(Code.CLOSE, 1), Code.set(0, 0),
            Code.call(Code.READ), Code.go(7), Code.call(Code.SLEEP), Code.set(2, 1), Code.set(2, 2), Code.set(2, 3),
            Code.set(2, 4), Code.set(2, 5), Code.set(2, 6), Code.call(Code.EXIT));
        Check.due("run", 5 + 5 + 2, y.run(12));
        Check.due("BLOCKED", 2, y.process(1, 0));
        Check.due("run", 3, y.run(3));
        Check.due("BLOCKED yet", 2, y.process(1, 0));
        Check.due("run", 1, y.run(1));
        Check.due("the writer is a ZOMBIE", 3, y.process(2, 0));
        Check.due("READY", 1, y.process(1, 0));
        Check.due("run", 1, y.run(1));
        Check.due("0 at the end", 0, y.process(1, 10));
    }

    private static void brokenPipe() {
        UnixDesk x = Code.booted(
            Code.call(Code.FORK), Code.zero(0, 3), Code.go(2), Code.call(Code.PIPE), Code.call(Code.CLOSE, 0),
            Code.call(Code.WRITE, 1, 5), Code.go(9));
        Check.due("run", 5 + 5, x.run(10));
        Check.due("run", 5 + 2, x.run(7));
        Check.due("KILLED", 3, x.process(2, 0));
        Check.due("status", -1, x.process(2, 5));
        Check.due("behind the WRITE", 9, x.process(2, 3));
        Check.due("R0 stays", 1, x.process(2, 10));
        Check.due("R1 stays", 5, x.process(2, 11));
        Check.due("the pipe is no more", 0, x.total(4));
        Check.due("steps", 7, x.process(2, 7));
    }

    /** A writer that is BLOCKED is READY, and then KILLED, when the last end for reading is closed. */
    private static void brokenFullPipe() {
        UnixDesk x = Code.booted(
            Code.call(Code.PIPE), Code.call(Code.FORK), Code.zero(0, 8), Code.call(Code.SLEEP, 40),
            Code.call(Code.CLOSE, 0), Code.go(7), Code.call(Code.CLOSE, 0), Code.set(0, 1), Code.call(Code.WRITE),
            Code.go(11));
        Check.due("run", 5 + 13, x.run(18));
        Check.due("2 is BLOCKED", 2, x.process(2, 0));
        Check.due("1 sleeps", 2, x.process(1, 0));
        Check.due("at the WRITE", 11, x.process(2, 3));
        Check.due("steps", 13, x.process(2, 7));
        Check.due("TIME", 18, x.total(5));
        Check.due("run", 3, x.run(3));
        Check.due("READY", 1, x.process(2, 0));
        Check.due("run", 3, x.run(3));
        Check.due("KILLED", 3, x.process(2, 0));
        Check.due("behind the WRITE", 12, x.process(2, 3));
        Check.due("status", -1, x.process(2, 5));
    }

    private static void wrongEnds() {
        int[][] calls = {{Code.READ, 1}, {Code.WRITE, 0}, {Code.SEEK, 0}, {Code.SEEK, 1}, {Code.READ, 2}, {Code.WRITE, 2},
            {Code.CLOSE, 2}, {Code.DUP, 2}, {Code.READ, -1}, {Code.READ, 6}, {Code.WRITE, -1}, {Code.WRITE, 6},
            {Code.CLOSE, -1}, {Code.CLOSE, 6}, {Code.DUP, -1}, {Code.DUP, 6}, {Code.SEEK, 6}, {Code.SEEK, -1}};
        for (int[] call : calls) {
            UnixDesk x = Code.after(4, Code.call(Code.PIPE), Code.call(call[0], call[1], 0), Code.go(4));
            Check.due("call " + call[0] + " of " + call[1], -1, x.process(1, 10));
            Check.due("R1 stays", 0, x.process(1, 11));
            Check.due("open files stay", 2, x.total(8));
        }
    }

    /** A new pipe is empty, also if an old one ended with words in it. */
    private static void newPipeIsEmpty() {
        UnixDesk x = Code.booted(
            Code.call(Code.PIPE), Code.call(Code.WRITE, 1, 8), Code.call(Code.CLOSE, 0), Code.call(Code.CLOSE, 1),
            Code.call(Code.PIPE), Code.set(0, 0), Code.call(Code.READ));
        Check.due("run", 11, x.run(200));
        Check.due("BLOCKED", 2, x.process(1, 0));
    }

    public static void main(String[] args) {
        ends();
        tooFewDescriptors();
        fourPipes();
        wordsInOrder();
        manyWords();
        blockedReader();
        twoReaders();
        endOfPipe();
        brokenPipe();
        brokenFullPipe();
        wrongEnds();
        newPipeIsEmpty();
        Check.finish();
    }
}
