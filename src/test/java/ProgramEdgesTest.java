/** The edges of the numbers of programs, instructions, registers, places and calls; promises 2, 3 and 4. */
public final class ProgramEdgesTest {
    private static final int MIN = Edge.MIN, MAX = Edge.MAX, BAD = Edge.BAD;
    private static final int[] NO_PROGRAM = {-1, 6, MIN, MAX};

    private static void badAdd(Story before, int program, int op, int a, int b) {
        String call = "add(" + program + ", " + op + ", " + a + ", " + b + ")";
        Edge.unchanged("behind " + call, before, before.add(program, op, a, b, BAD));
    }

    private static void goodAdd(int op, int a, int b) {
        Story before = Story.begin();
        Look.at(before).but("clear(0)", 1).due("behind add of op " + op, before.add(0, op, a, b, 1));
    }

    private static Story filled(int program, int length) {
        Story story = Story.begin();
        for (int k = 1; k <= length; k++) {
            story = story.add(program, 0, 0, k, k);
        }
        return story;
    }

    private static void programs() {
        Check.sentence("PROGRAMS 0..5");
        for (int program = 0; program <= 5; program++) {
            Story one = Story.begin().add(program, 0, 1, 7, 1);
            Look.at(Story.begin()).but("clear(" + program + ")", 1).due("one instruction", one);
            Edge.unchanged("cleared again", Story.begin(), one.clear(program, 1));
            UnixDesk x = one.boot(program).run(1).told();
            Check.due("its program", program, x.process(1, 2));
            Check.due("its instruction was done", 7, x.process(1, 11));
        }
        Story before = filled(5, 1);
        for (int program : NO_PROGRAM) {
            badAdd(before, program, 0, 0, 0);
            Edge.unchanged("clear " + program, before, before.clear(program, BAD));
            Edge.unchanged("boot " + program, before, before.boot(program, false));
        }
    }

    private static void upTo24() {
        Check.sentence("have up to 24 INSTRUCTIONS (op, a, b), numbered from 0");
        for (int program = 0; program <= 5; program++) {
            Story full = filled(program, 24);
            Edge.unchanged("the 25th", full, full.add(program, 0, 0, 0, UnixDesk.FULL));
            Story ran = full.boot(program);
            Check.due("the first is 0", 0, ran.told().process(1, 3));
            UnixDesk x = ran.run(24).told();
            Check.due("behind the 24th", 24, x.process(1, 3));
            Check.due("which was done", 24, x.process(1, 10));
            Check.due("the end", 1, x.run(200));
            Check.due("no process", 0, x.total(0));
        }
        Story almost = filled(3, 23);
        Look.at(almost).but("clear(3)", 24).due("the 24th", almost.add(3, 8, 0, 0, 24));
        Story mixed = filled(2, 24).add(4, 0, 0, 0, 1);
        Edge.unchanged("another one is not full", mixed.clear(4, 1), mixed.clear(4, 1).add(2, 0, 0, 0, UnixDesk.FULL));
    }

    private static void operations() {
        Check.sentence("0 SET A = the int b");
        for (int value : new int[] {MIN, -1, 0, 1, MAX}) {
            goodAdd(0, 0, value);
            Story before = Story.boot(Code.set(2, value));
            Look.at(before).went(1).but(Look.process(1, 12), value).due("SET " + value, before.run(1));
        }
        Check.sentence("8 CALL b (0..18).");
        for (int op : new int[] {-1, 9, MIN, MAX}) {
            badAdd(Story.begin(), 0, op, 0, 0);
        }
        for (int call = 0; call <= 18; call++) {
            goodAdd(8, 0, call);
        }
        for (int call : new int[] {-1, 19, MIN, MAX}) {
            badAdd(Story.begin(), 0, 8, 0, call);
        }
    }

    private static void registers() {
        Check.sentence("A, B are registers a, b (0..3, ints)");
        for (int op : new int[] {0, 1, 2, 3, 4, 5, 7}) {
            for (int register = 0; register <= 3; register++) goodAdd(op, register, 0);
            for (int register : new int[] {-1, 4, MIN, MAX}) badAdd(Story.begin(), 0, op, register, 0);
        }
        for (int op = 1; op <= 5; op++) {
            for (int register = 0; register <= 3; register++) goodAdd(op, 0, register);
            for (int register : new int[] {-1, 4, MIN, MAX}) badAdd(Story.begin(), 0, op, 0, register);
        }
        Check.sentence("(a register that is not used counts for nothing)");
        for (int unused : new int[] {-1, 4, MIN, MAX}) {
            goodAdd(6, unused, 0);
            goodAdd(8, unused, 0);
            Story go = Story.boot(new int[] {6, unused, 1}, new int[] {8, unused, 15});
            Look.at(go).went(1).due("GO with a " + unused, go.run(1));
            Edge.gives("CALL with a " + unused, go.run(1), 1, 1);
        }
    }

    private static void places() {
        Check.sentence("(b of both 0..23)");
        for (int op = 6; op <= 7; op++) {
            for (int place = 0; place <= 23; place++) {
                goodAdd(op, 0, place);
                Story before = Story.boot(new int[] {op, 0, place});
                Look.at(before).stepped(1).but(Look.process(1, 3), place).due("on at " + place, before.run(1));
            }
            for (int place : new int[] {-1, 24, MIN, MAX}) badAdd(Story.begin(), 0, op, 0, place);
        }
    }

    private static void notWithAProcess() {
        Story ready = Story.begin().program(1, Code.set(0, 1)).program(0, Code.set(0, 60), Code.call(Code.SLEEP)).boot(0);
        Story asleep = ready.run(2);
        Story ended = asleep.run(2);
        Story[] with = {ready, asleep, asleep.run(1)};
        for (Story before : with) {
            Check.sentence("or there is a process; FULL.");
            badAdd(before, 0, 0, 0, 0);
            badAdd(before, 5, 0, 0, 0);
            Check.sentence("BAD likewise.");
            Edge.unchanged("clear(0)", before, before.clear(0, BAD));
            Edge.unchanged("clear(5)", before, before.clear(5, BAD));
            Check.sentence("False if there is a process, or no such program.");
            Edge.unchanged("boot(0)", before, before.boot(0, false));
            Edge.unchanged("boot(1)", before, before.boot(1, false));
        }
        Story[] without = {ended, asleep.crash(1)};
        for (Story before : without) {
            Look.at(before).but("clear(0)", 3).due("add", before.add(0, 0, 0, 0, 3));
            Look.at(before).but("clear(0)", 0).due("clear", before.clear(0, 2));
            Check.due("boot", 1, before.boot(1).told().total(0));
        }
    }

    private static void badBeforeFull() {
        Check.sentence("add: BAD is tested before FULL.");
        Story full = filled(1, 24);
        badAdd(full, 1, 9, 0, 0);
        badAdd(full, 1, -1, 0, 0);
        badAdd(full, 1, 0, 4, 0);
        badAdd(full, 1, 1, 0, -1);
        badAdd(full, 1, 6, 0, 24);
        badAdd(full, 1, 8, 0, 19);
        badAdd(full.boot(1), 1, 0, 0, 0);
    }

    private static void clears() {
        Check.sentence("A program has no instructions then: how many it had.");
        for (int length : new int[] {0, 1, 23, 24}) {
            Story before = filled(4, length).add(5, 0, 0, 0, 1);
            Story after = before.clear(4, length);
            Look.at(before).but("clear(4)", 0).due("cleared of " + length, after);
            Look.at(before).but("clear(4)", 1).due("the first again", after.add(4, 0, 1, 9, 1));
            UnixDesk x = after.boot(4).told();
            Check.due("what was there is not done", 1, x.run(200));
        }
    }

    private static void boots() {
        Check.sentence("A process with pid 1 and parent 0 begins a program, with registers 0, one page of zeros, no descriptors; "
            + "slot 7 is the one before: true.");
        Story before = Story.begin().program(5, Code.go(0));
        Look due = Look.at(before).but(Look.total(0), 1).more(Look.total(1), -1).but(Look.total(10), 1).but("crash()", 1);
        due = due.but(Look.sharing(1, 0), 1);
        int[] process = {1, 0, 5, 0, 1, 0, 0, 0, 0, BAD, 0, 0, 0, 0};
        for (int what = 0; what <= 13; what++) due = due.but(Look.process(1, what), process[what]);
        for (int d = 0; d <= 5; d++) due = due.but(Look.descriptor(1, d, 0), 0);
        due.due("boot", before.boot(5));

        // The same behind a life that used slots, pages, descriptors and registers, and crashed.
        Story life = before.program(0, Code.call(Code.PIPE), Code.call(Code.FORK), Code.call(Code.GROW, 3), Code.set(1, 5),
            Code.set(2, 9), Code.store(2, 1), Code.set(3, 8), Code.call(Code.SLEEP, 9)).boot(0).run(17);
        Story crashed = life.crash(2);
        due = Look.at(crashed);
        due = due.but(Look.total(0), 1).more(Look.total(1), -1).but(Look.total(9), 0).but(Look.total(10), 1);
        due = due.but(Look.sharing(1, 0), 1).but("crash()", 1);
        for (int what = 0; what <= 13; what++) due = due.but(Look.process(1, what), process[what]);
        for (int d = 0; d <= 5; d++) due = due.but(Look.descriptor(1, d, 0), 0);
        due.due("boot behind a crash", crashed.boot(5));
    }

    public static void main(String[] args) {
        programs();
        upTo24();
        operations();
        registers();
        places();
        notWithAProcess();
        badBeforeFull();
        clears();
        boots();
        Check.finish();
    }
}
