import java.util.ArrayList;
import java.util.List;
import java.util.function.ToIntFunction;

/**
 * Calls that can be made again on a new object. Each look at what they came to has objects of its own, so that none
 * is called more often than the 512 times of which the document speaks.
 */
final class Story {
    static final int CALL_LIMIT = 512;

    /** One call with the answer that is due; it is checked when it is made for the first time. */
    private static final class Act {
        final String text;
        final ToIntFunction<UnixDesk> call;
        final int due;
        boolean checked;

        Act(String text, ToIntFunction<UnixDesk> call, int due) {
            this.text = text;
            this.call = call;
            this.due = due;
        }

        void on(UnixDesk x) {
            int answer = call.applyAsInt(x);
            if (!checked) Check.due(text, due, answer);
            checked = true;
        }
    }

    private final List<Act> acts;

    private Story(List<Act> acts) {
        this.acts = acts;
    }

    /** A new object. */
    static Story begin() {
        return new Story(List.of());
    }

    /** A new object that has booted program 0, which is made of these parts. */
    static Story boot(Object... parts) {
        return begin().program(0, parts).boot(0);
    }

    /**
     * Process 1 waits for process 2, which is to do the parts next: they begin at instruction 3 of program 0. The page
     * of both has one frame.
     */
    static Story child(Object... parts) {
        Object[] all = {Code.call(Code.FORK), Code.zero(Code.R0, 3), Code.call(Code.WAIT), Code.join(parts)};
        return boot(all).run(4);
    }

    /**
     * Process 1 is to do the parts next: they begin at instruction 11 of program 0. Process 2 in slot 1 and process 3
     * in slot 2 did programs 1 and 2, which end with a SLEEP that lasts.
     */
    static Story three(Object[] second, Object[] third, Object... parts) {
        Object[] all = {
            Code.call(Code.FORK), Code.zero(Code.R0, 7), Code.call(Code.FORK), Code.zero(Code.R0, 9),
            Code.call(Code.SLEEP, 100), Code.go(11), Code.call(Code.EXEC, 1), Code.call(Code.EXEC, 2), Code.join(parts)};
        int[][] sleep = Code.call(Code.SLEEP, 1000);
        return begin().program(1, Code.join(second), sleep).program(2, Code.join(third), sleep).program(0, all)
            .boot(0).until(1, 11);
    }

    /**
     * Process 1, parent of the seven others, is to do the parts next: they begin at instruction 12 of program 0. The
     * others, in the order of their slots, did the last two instructions.
     */
    static Story eight(int[][] others, Object... parts) {
        Object[] all = {
            Code.call(Code.FORK), Code.zero(0, 8), Code.set(0, 1), Code.add(2, 0), Code.set(0, 7), Code.sub(0, 2),
            Code.zero(0, 10), Code.go(0), others, Code.call(Code.SLEEP, 300), Code.join(parts)};
        return boot(all).until(1, 12);
    }

    Story then(String text, ToIntFunction<UnixDesk> call, int due) {
        List<Act> longer = new ArrayList<>(acts);
        longer.add(new Act(text, call, due));
        return new Story(longer);
    }

    Story add(int program, int op, int a, int b, int due) {
        String text = "add(" + program + ", " + op + ", " + a + ", " + b + ")";
        return then(text, x -> x.add(program, op, a, b), due);
    }

    Story clear(int program, int due) {
        return then("clear(" + program + ")", x -> x.clear(program), due);
    }

    /** Adds instructions to a program that has none. */
    Story program(int program, Object... parts) {
        Story story = this;
        int[][] code = Code.join(parts);
        for (int k = 0; k < code.length; k++) {
            story = story.add(program, code[k][0], code[k][1], code[k][2], k + 1);
        }
        return story;
    }

    Story boot(int program, boolean due) {
        return then("boot(" + program + ")", x -> x.boot(program) ? 1 : 0, due ? 1 : 0);
    }

    Story boot(int program) {
        return boot(program, true);
    }

    Story run(int n, int due) {
        return then("run(" + n + ")", x -> x.run(n), due);
    }

    Story run(int n) {
        return run(n, n);
    }

    Story crash(int due) {
        return then("crash()", UnixDesk::crash, due);
    }

    /** Puts other parts in the place of program 0, and boots it. There is no process. */
    Story again(int before, Object... parts) {
        return clear(0, before).program(0, parts).boot(0);
    }

    /** As many steps as it takes until a process is READY at an instruction. */
    Story until(int pid, int place) {
        UnixDesk x = told();
        int most = Math.min(200, (CALL_LIMIT - acts.size()) / 3);
        for (int steps = 0; steps < most; steps++) {
            if (x.process(pid, 3) == place && x.process(pid, 0) == 1) {
                return steps == 0 ? this : run(steps);
            }
            x.run(1);
        }
        Check.due("process " + pid + " comes to instruction " + place, true, false);
        return this;
    }

    /** A new object on which all calls were made. */
    UnixDesk told() {
        UnixDesk x = new UnixDesk();
        for (Act act : acts) {
            act.on(x);
        }
        return x;
    }

    /** How many calls more may be made on an object that this was told. */
    int callsLeft() {
        return CALL_LIMIT - acts.size();
    }
}
