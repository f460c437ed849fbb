/** What the tests of the document's edges share. */
final class Edge {
    static final int MIN = Integer.MIN_VALUE, MAX = Integer.MAX_VALUE, BAD = UnixDesk.BAD;

    private Edge() { }

    /** The later calls of a story changed nothing. */
    static void unchanged(String what, Story before, Story after) {
        Look.at(before).due(what, after);
    }

    /** The next step is a call of a process that cannot be done: it gives -1, and changes nothing. */
    static void refused(String what, Story before, int pid) {
        gives(what, before, pid, -1);
    }

    /** The next step is a call of a process that gives this, and changes nothing else. */
    static void gives(String what, Story before, int pid, int r0) {
        Look.at(before).gave(pid, r0).due(what, before.run(1));
    }

    /** The next step is a call of a process that is BLOCKED: it is a step, and changes nothing. */
    static void blocks(String what, Story before, int pid) {
        Look.at(before).blocked(pid).due(what, before.run(1));
    }

    /** A story that is at the last instruction of its parts, a call with its arguments in R0 and R1. */
    static Story atCall(int call, int r0, int r1) {
        return Story.boot(Code.set(0, r0), Code.set(1, r1), Code.call(call)).run(2);
    }
}
