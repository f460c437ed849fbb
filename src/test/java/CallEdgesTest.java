/** What holds for every call, whatever its arguments: one that gives -1 changed nothing, nor did one that is BLOCKED. */
public final class CallEdgesTest {
    private static final int MIN = Edge.MIN, MAX = Edge.MAX;
    private static final int[] FIRST = {MIN, -2, -1, 0, 1, 2, 3, 4, 5, 6, 7, 8, 9, 16, 1000, 1001, MAX};
    private static final int[] SECOND = {MIN, -1, 0, 1, 2, 3, 7, 8, 10, 15, 16, 17, MAX};

    private static int refused = 0;
    private static int blocked = 0;

    /** Process 1 has nothing but its page. */
    private static Story poor(int call, int r0, int r1) {
        return Edge.atCall(call, r0, r1);
    }

    /** Process 1 has the ends of a pipe, a file of one word, a child that sleeps and one that is a ZOMBIE. */
    private static Story rich(int call, int r0, int r1) {
        int[][] sleeper = Code.join(Code.call(Code.OPEN, 3, 7), Code.call(Code.LINK, 3, 7));
        return Story.three(sleeper, Code.call(Code.EXIT, 9), Code.call(Code.PIPE), Code.call(Code.OPEN, 0, 7),
            Code.call(Code.WRITE, 2, 9), Code.set(0, r0), Code.set(1, r1), Code.call(call)).run(9);
    }

    /** No frame is FREE, and there are 12 open files. */
    private static Story full(int call, int r0, int r1) {
        int[][] grow = Code.call(Code.GROW, 7);
        return Story.three(Code.join(Code.opens(6), grow), Code.join(Code.opens(5), grow), Code.call(Code.OPEN, 0, 3),
            Code.call(Code.GROW, 3), Code.set(0, r0), Code.set(1, r1), Code.call(call)).run(7);
    }

    private static void holds(String what, Story before, int call) {
        Story after = before.run(1);
        UnixDesk x = after.told();
        boolean gives = call != Code.EXIT && call != Code.SAY;
        if (gives && x.process(1, 0) == 1 && x.process(1, 10) == -1) {
            refused++;
            Check.sentence("what they give comes to R0, -1 if it cannot be done (then nothing is changed)");
            Look.at(before).gave(1, -1).due(what, after);
        } else if (x.process(1, 0) == 2) {
            blocked++;
            Check.sentence("A call that is BLOCKED is a step too, and changes nothing");
            Look.at(before).blocked(1).due(what, after);
        } else if (x.process(1, 0) == 1 && call != Code.EXEC) {
            Check.sentence("A STEP of a process does its next instruction");
            Check.due(what + ": behind the call", before.told().process(1, 3) + 1, x.process(1, 3));
        }
        Check.sentence("TIME is how many steps there were, and what was skipped.");
        Check.due(what + ": TIME", before.told().total(5) + 1, x.total(5));
        Check.due(what + ": latest step", 1, x.total(9));
    }

    private static void fullIsFull() {
        UnixDesk x = full(Code.PID, 0, 0).told();
        Check.due("FREE frames", 0, x.total(1));
        Check.due("open files", 12, x.total(8));
    }

    public static void main(String[] args) {
        fullIsFull();
        for (int call = 0; call <= 18; call++) {
            for (int r0 : FIRST) {
                for (int r1 : SECOND) {
                    String what = "call " + call + " with " + r0 + ", " + r1;
                    holds(what + ", poor", poor(call, r0, r1), call);
                    holds(what + ", rich", rich(call, r0, r1), call);
                    holds(what + ", full", full(call, r0, r1), call);
                }
            }
        }
        Check.due("many were refused", true, refused > 5000);
        Check.due("some were BLOCKED", true, blocked > 50);
        Check.finish();
    }
}
