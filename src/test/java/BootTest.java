/** Promise 4. */
public final class BootTest {
    private static void refusals() {
        UnixDesk x = new UnixDesk();
        int[] none = {-1, 6, Integer.MIN_VALUE, Integer.MAX_VALUE};
        for (int program : none) {
            Check.due("boot " + program, false, x.boot(program));
        }
        Check.due("no process came", 0, x.total(0));
        Check.due("boot of an empty program", true, x.boot(5));
        Check.due("boot while there is a process", false, x.boot(5));
        Check.due("its end", 1, x.run(10));
        Check.due("boot when it has ended", true, x.boot(0));
        Check.due("crash", 1, x.crash());
        Check.due("boot behind a crash", true, x.boot(1));
    }

    private static void firstProcess(UnixDesk x, int program) {
        int[] due = {1, 0, program, 0, 1, 0, 0, 0, 0, UnixDesk.BAD, 0, 0, 0, 0};
        for (int what = 0; what < due.length; what++) {
            Check.due("process(1, " + what + ")", due[what], x.process(1, what));
        }
        for (int address = 0; address < 4; address++) {
            Check.due("memory " + address, 0, x.memory(1, address));
        }
        for (int d = 0; d < 6; d++) {
            Check.due("descriptor " + d, 0, x.descriptor(1, d, 0));
        }
        Check.due("processes", 1, x.total(0));
        Check.due("FREE frames", 19, x.total(1));
        Check.due("no step since the boot", 0, x.total(9));
        Check.due("greatest pid", 1, x.total(10));
    }

    /** What an earlier boot left in registers, memory, descriptors and slots does not come back. */
    private static void nothingIsLeft() {
        UnixDesk x = new UnixDesk();
        Code.program(x, 3, Code.set(1, 5));
        Code.boot(x, Code.call(Code.PIPE), Code.set(2, 3), Code.store(2, 2), Code.set(3, 8), Code.call(Code.FORK),
            Code.call(Code.GROW, 1), Code.call(Code.SLEEP, 9));
        Check.due("run", 9, x.run(9));
        Check.due("two processes", 2, x.crash());
        Check.due("pid of the latest step stays", 2, x.total(9));
        Check.due("greatest pid stays", 2, x.total(10));
        Check.due("boot", true, x.boot(3));
        firstProcess(x, 3);
        Check.due("second process is gone", UnixDesk.BAD, x.process(2, 0));
        Check.due("TIME stays", 9, x.total(5));
        Check.due("run", 2, x.run(9));
        Check.due("TIME goes on", 11, x.total(5));
    }

    private static void slotSevenIsTheOneBefore() {
        UnixDesk x = new UnixDesk();
        Code.program(x, 0, Code.call(Code.FORK), Code.go(1));
        for (int boot = 0; boot < 3; boot++) {
            Check.due("boot", true, x.boot(0));
            Check.due("run", 6, x.run(6));
            Check.due("five steps of the first slot", 5, x.process(1, 7));
            Check.due("one of the second", 1, x.process(2, 7));
            Check.due("latest step", 2, x.total(9));
            x.crash();
        }
    }

    public static void main(String[] args) {
        refusals();
        UnixDesk x = new UnixDesk();
        x.boot(4);
        firstProcess(x, 4);
        nothingIsLeft();
        slotSevenIsTheOneBefore();
        Check.finish();
    }
}
