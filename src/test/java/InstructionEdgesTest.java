/** The edges of the instructions: sums, LESS, addresses, places, and the end behind the last instruction. */
public final class InstructionEdgesTest {
    private static final int MIN = Edge.MIN, MAX = Edge.MAX;

    /** Registers 1 and 3 have two values; the next instruction, of registers 1 and 3, changes register 1 alone. */
    private static void computes(String what, int op, int a, int b, int due) {
        Story before = Story.boot(Code.set(1, a), Code.set(3, b), new int[] {op, 1, 3}).run(2);
        Look.at(before).went(1).but(Look.process(1, 11), due).due(a + what + b, before.run(1));
    }

    private static void sums() {
        Check.sentence("sums wrap");
        int[][] sums = {{MAX, 1, MIN}, {MIN, -1, MAX}, {MAX, MAX, -2}, {MIN, MIN, 0}, {0, 0, 0}, {-1, 1, 0}, {MAX, MIN, -1}};
        for (int[] s : sums) computes(" + ", 1, s[0], s[1], s[2]);
        int[][] differences = {{MIN, 1, MAX}, {MAX, -1, MIN}, {0, MIN, MIN}, {MIN, MIN, 0}, {MIN, MAX, 1}, {0, 1, -1}};
        for (int[] d : differences) computes(" - ", 2, d[0], d[1], d[2]);
    }

    private static void less() {
        Check.sentence("3 LESS 1 if A is less than B, else 0");
        int[][] pairs = {{0, 0, 0}, {0, 1, 1}, {1, 0, 0}, {-1, 0, 1}, {0, -1, 0}, {MIN, MAX, 1}, {MAX, MIN, 0}, {MIN, MIN, 0},
            {MAX, MAX, 0}, {MIN, 0, 1}, {0, MIN, 0}, {MIN, 1, 1}, {MAX, -1, 0}, {MAX - 1, MAX, 1}, {MIN, MIN + 1, 1}};
        for (int[] p : pairs) computes(" less than ", 3, p[0], p[1], p[2]);
    }

    private static void oneRegister() {
        Check.sentence("(the results come to A; sums wrap)");
        int[][] due = {{1, 1 << 31}, {2, 0}, {3, 0}};
        for (int[] d : due) {
            for (int register = 0; register <= 3; register++) {
                Story before = Story.boot(Code.set(register, 1 << 30), new int[] {d[0], register, register}).run(1);
                Look.at(before).went(1).but(Look.process(1, 10 + register), d[1]).due("with itself", before.run(1));
            }
        }
    }

    /** Process 2 has so many pages; R3 is 77, R2 the address at which it is to LOAD or STORE. */
    private static Story withPages(int pages, int op, int address) {
        return Story.child(Code.call(Code.GROW, pages - 1), Code.set(3, 77), Code.set(2, address), new int[] {op, 3, 2})
            .run(4);
    }

    private static void addresses() {
        Check.sentence("or an address is not within its pages, the process is KILLED: that is EXIT with status -1.");
        for (int pages = 1; pages <= 8; pages++) {
            int[] within = {0, 4 * pages - 1};
            for (int address : within) {
                Story load = withPages(pages, 4, address);
                Look.at(load).went(2).but(Look.process(2, 13), 0).due("LOAD at " + address, load.run(1));
                Story store = withPages(pages, 5, address);
                Look due = Look.at(store).went(2).but(Look.memory(2, address), 77);
                // Page 0 has the frame of process 1's page.
                if (address < 4) {
                    due = due.but(Look.process(2, 8), 1).more(Look.total(1), -1);
                    due = due.but(Look.sharing(1, 0), 1).but(Look.sharing(2, 0), 1);
                }
                due.due("STORE at " + address, store.run(1));
            }
            int[] outside = {-1, 4 * pages, 4 * pages + 3, MIN, MIN + 1, MAX};
            for (int address : outside) {
                for (int op = 4; op <= 5; op++) {
                    Story before = withPages(pages, op, address);
                    Look due = Look.at(before).went(2).zombie(2, -1).but(Look.process(1, 0), 1);
                    due = due.more(Look.total(1), pages - 1).but(Look.sharing(1, 0), 1);
                    due.due("op " + op + " at " + address + " of " + pages + " pages", before.run(1));
                }
            }
        }
    }

    /** Process 2 has a page of its own, and the words of other pages around it. */
    private static void wordsAround() {
        Check.sentence("or an address is not within its pages, the process is KILLED: that is EXIT with status -1.");
        for (int address : new int[] {-1, 4}) {
            for (int op = 4; op <= 5; op++) {
                // Words 0 and 3 of both are 3; those of process 2 come to a page of its own by the STORE at 6.
                Story before = Story.boot(Code.set(1, 3), Code.store(1, 1), Code.store(1, 2), Code.call(Code.FORK),
                    Code.zero(0, 6), Code.call(Code.WAIT), Code.store(1, 2), Code.set(3, address), new int[] {op, 2, 3})
                    .until(2, 8);
                Check.due("a page of its own", 1, before.told().sharing(2, 0));
                Check.due("memory(2, " + address + ")", 0, before.told().memory(2, address));
                Look due = Look.at(before).went(2).zombie(2, -1).but(Look.process(1, 0), 1).more(Look.total(1), 1);
                due.due("op " + op + " at " + address, before.run(1));
            }
        }
    }

    private static void loads() {
        Check.sentence("4 LOAD A = the word at address B  5 STORE that word = A");
        for (int address = 0; address < 32; address++) {
            int value = address == 0 ? MIN : address == 31 ? MAX : 100 + address;
            Story before = Story.boot(Code.call(Code.GROW, 7), Code.set(1, value), Code.set(2, address), Code.store(1, 2),
                Code.set(1, 5), Code.load(1, 2)).run(4);
            Look.at(before).went(1).but(Look.memory(1, address), value).due("STORE at " + address, before.run(1));
            Story stored = before.run(2);
            Look.at(stored).went(1).but(Look.process(1, 11), value).due("LOAD at " + address, stored.run(1));
        }
        Story same = Story.boot(Code.set(3, 3), Code.store(3, 3), Code.load(3, 3)).run(1);
        Look.at(same).went(1).but(Look.memory(1, 3), 3).due("STORE of its own address", same.run(1));
        Look.at(same.run(1)).went(1).due("LOAD over its own address", same.run(2));
    }

    private static void zero() {
        Check.sentence("7 ZERO on at b if A is 0");
        for (int register = 0; register <= 3; register++) {
            for (int value : new int[] {0, 1, -1, MIN, MAX, 1 << 16}) {
                Story before = Story.boot(Code.set(register, value), Code.zero(register, 9)).run(1);
                Look due = Look.at(before).stepped(1).but(Look.process(1, 3), value == 0 ? 9 : 2);
                due.due("ZERO of " + value, before.run(1));
            }
        }
        Check.sentence("6 GO on at b");
        Story itself = Story.boot(Code.go(0));
        Look.at(itself).stepped(1).due("GO to itself", itself.run(1));
    }

    private static void behindTheLast() {
        Check.sentence("behind the last one of its program it is EXIT with R0");
        Story empty = Story.begin().boot(3);
        Look.at(empty).stepped(1).gone(1).more(Look.total(1), 1).due("an empty program", empty.run(1));
        Edge.unchanged("and then no step", empty.run(1), empty.run(1).run(200, 0));
        // Instruction 5 is the last one of program 0: on at 6, at 7, and at 23 are all behind it.
        for (int place : new int[] {6, 7, 23}) {
            for (int status : new int[] {0, 1, -1, MIN, MAX}) {
                Story before = Story.child(Code.set(0, status), Code.set(1, 0), Code.zero(1, place)).run(3);
                Check.due("at", place, before.told().process(2, 3));
                Look due = Look.at(before).stepped(2).zombie(2, status).but(Look.process(1, 0), 1);
                due.but(Look.sharing(1, 0), 1).due("EXIT behind the last one at " + place, before.run(1));
            }
        }
    }

    public static void main(String[] args) {
        sums();
        less();
        oneRegister();
        addresses();
        wordsAround();
        loads();
        zero();
        behindTheLast();
        Check.finish();
    }
}
