/** The edges of EXIT, FORK, WAIT, KILL, SLEEP and PID, and of slots and pids. */
public final class ProcessEdgesTest {
    private static final int MIN = Edge.MIN, MAX = Edge.MAX, BAD = Edge.BAD;
    private static final int[][] SLEEPING = Code.call(Code.SLEEP, 1000);
    private static final int[][] ENDING = Code.call(Code.EXIT, 1000);

    private static void atMostEight() {
        Check.sentence("Not with 8.");
        Edge.refused("eight, of which seven sleep", Story.eight(SLEEPING, Code.call(Code.FORK)), 1);
        Check.sentence("ZOMBIES are processes: they keep their slots, and total(0) and FORK count them.");
        Story zombies = Story.eight(ENDING, Code.call(Code.FORK));
        Edge.refused("eight, of which seven are ZOMBIES", zombies, 1);
        UnixDesk x = zombies.told();
        Check.due("processes", 8, x.total(0));
        for (int pid = 2; pid <= 8; pid++) {
            Check.due("state of " + pid, 3, x.process(pid, 0));
            Check.due("slot of " + pid, pid - 1, x.process(pid, 6));
        }
        Check.sentence("PROCESSES are at most 8, in SLOTS 0..7 (a new one comes to the least free one).");
        Story seven = Story.eight(ENDING, Code.call(Code.WAIT), Code.call(Code.FORK)).run(1);
        Look.at(seven).forked(1, 9, 1).due("the eighth again", seven.run(1));
        Story one = Story.boot(Code.set(2, 6), Code.call(Code.FORK)).run(1);
        Look.at(one).forked(1, 2, 1).due("the second", one.run(1));
    }

    private static void forks() {
        Check.sentence("1 FORK: a new process, like this one in all but pid and parent, goes on with R0 0; gives its pid.");
        Story before = Story.begin().program(4, Code.call(Code.GROW, 2), Code.set(2, 11), Code.set(3, 8), Code.store(2, 3),
            Code.call(Code.OPEN, 0, 7), Code.call(Code.WRITE, 0, 9), Code.call(Code.PIPE), Code.call(Code.FORK)).boot(4).run(12);
        Look due = Look.at(before).forked(1, 2, 1);
        Check.due("word of the child", 11, due.answer(Look.memory(2, 8)));
        due.due("FORK", before.run(1));
        Check.sentence("A forked process has done no steps itself: of it process answers 0 for what 7 and what 8 at first.");
        Story copied = Story.boot(Code.call(Code.FORK), Code.store(0, 1), Code.call(Code.FORK), Code.go(3)).run(2);
        Check.due("process 1 copied a page", 1, copied.told().process(1, 8));
        Look.at(copied).forked(1, 3, 2).due("FORK behind a copy", copied.run(1));
        // It is READY, also if its first step is BLOCKED: R0 of it is 0, the end for reading.
        Story reader = Story.boot(Code.call(Code.PIPE), Code.call(Code.FORK), Code.call(Code.READ), Code.call(Code.WAIT)).run(1);
        Look.at(reader).forked(1, 2, 1).due("FORK before a READ", reader.run(1));
        Edge.blocks("the first step of it", reader.run(3), 2);
        // A slot, and a process in it, that was used before has no steps, copies or status either.
        Story used = Story.boot(Code.call(Code.FORK), Code.zero(0, 6), Code.call(Code.WAIT), Code.call(Code.FORK), Code.go(4),
            Code.go(4), Code.store(2, 2), Code.call(Code.EXIT, 9)).until(1, 3);
        Look.at(used).forked(1, 3, 1).due("FORK into a slot that was used", used.run(1));
    }

    private static void leastSlot() {
        Check.sentence("(a new one comes to the least free one)");
        Story story = Story.eight(SLEEPING, Code.call(Code.KILL, 5), Code.call(Code.WAIT), Code.call(Code.KILL, 3),
            Code.call(Code.WAIT), Code.call(Code.FORK), Code.zero(0, 8), Code.call(Code.FORK), Code.zero(0, 8));
        UnixDesk x = story.until(1, 21).told();
        Check.due("slot of 9 is that of 3", 2, x.process(9, 6));
        Check.due("slot of 10 is that of 5", 4, x.process(10, 6));
        Check.due("processes", 8, x.total(0));
        Check.due("greatest pid", 10, x.total(10));
        // Process 1 is no more: its slot 0 is the least free one.
        Story first = Story.boot(Code.call(Code.FORK), Code.zero(0, 3), Code.call(Code.EXIT), Code.call(Code.FORK)).run(4);
        Look.at(first).forked(2, 3, 0).due("slot 0", first.run(1));
    }

    private static void pids() {
        Check.sentence("Each has a PID (1, 2, .. as they are made)");
        UnixDesk x = Story.eight(SLEEPING).told();
        for (int pid = 1; pid <= 8; pid++) Check.due("slot of " + pid, pid - 1, x.process(pid, 6));
        Check.due("no ninth", BAD, x.process(9, 0));
        // A FORK that is refused uses up no pid, and a pid that is no more does not come again.
        Story story = Story.eight(ENDING, Code.call(Code.FORK), Code.call(Code.FORK), Code.call(Code.WAIT),
            Code.call(Code.FORK)).run(3);
        Check.due("WAIT gave", 2, story.told().process(1, 10));
        Look.at(story).forked(1, 9, 1).due("the next pid", story.run(1));
        Story again = story.run(1).crash(8).boot(5);
        Check.due("1 again behind a boot", 1, again.told().total(10));
        Check.due("1 again behind a boot", 1, again.told().process(1, 0));
        Check.sentence("15 gives the PID.");
        Edge.gives("PID of the first", Story.boot(Code.set(0, 9), Code.call(Code.PID)).run(1), 1, 1);
        Edge.gives("PID of the second", Story.child(Code.set(0, 9), Code.call(Code.PID)).run(1), 2, 2);
    }

    private static void exitStatus() {
        Check.sentence("0 EXIT with status R0: its open files are closed, its pages go;");
        for (int status : new int[] {0, 1, -1, MIN, MAX}) {
            Story before = Story.child(Code.set(0, status), Code.call(Code.EXIT)).run(1);
            Look due = Look.at(before).went(2).zombie(2, status).but(Look.process(1, 0), 1);
            due.but(Look.sharing(1, 0), 1).due("EXIT " + status, before.run(1));
        }
        // Process 2 alone has the two ends of a pipe, and one further page.
        Story before = Story.child(Code.call(Code.PIPE), Code.call(Code.GROW, 1), Code.call(Code.EXIT)).run(3);
        Look due = Look.at(before).went(2).zombie(2, 1).but(Look.process(1, 0), 1).but(Look.sharing(1, 0), 1);
        due = due.more(Look.total(1), 1).but(Look.total(4), 0).but(Look.total(8), 0);
        due.due("EXIT with open files", before.run(1));
        Check.sentence("It is a ZOMBIE if it has a parent, else it is no more");
        Story first = Story.boot(Code.call(Code.PIPE), Code.call(Code.GROW, 1), Code.call(Code.EXIT)).run(3);
        due = Look.at(first).stepped(1).gone(1).more(Look.total(1), 2).but(Look.total(4), 0).but(Look.total(8), 0);
        due.due("EXIT of process 1", first.run(1));
    }

    private static void heirs() {
        Check.sentence("those whose parent it is have parent 1 then");
        // Process 1 waits; process 2 is to EXIT with children 3, a ZOMBIE, and 4, which sleeps.
        Story exits = Story.child(Code.call(Code.FORK), Code.zero(0, 10), Code.call(Code.FORK), Code.zero(0, 12),
            Code.call(Code.SLEEP, 60), Code.call(Code.EXIT), ENDING, SLEEPING).until(2, 9);
        Check.due("3 is a ZOMBIE", 3, exits.told().process(3, 0));
        Check.due("4 sleeps", 2, exits.told().process(4, 0));
        Look due = Look.at(exits).went(2).zombie(2, 0).but(Look.process(1, 0), 1);
        due = due.but(Look.process(3, 1), 1).but(Look.process(4, 1), 1);
        due = due.but(Look.sharing(1, 0), 2).but(Look.sharing(4, 0), 2);
        due.due("EXIT of 2", exits.run(1));
        Story waited = exits.run(1);
        Look.at(waited).gave(1, 2).gone(2).due("process 1 waits for 2", waited.run(1));

        Check.sentence("(0 if it is 1, or 1 is not there or a ZOMBIE)");
        Story first = Story.boot(Code.call(Code.FORK), Code.zero(0, 7), Code.call(Code.FORK), Code.zero(0, 9),
            Code.call(Code.SLEEP, 60), Code.call(Code.EXIT), ENDING, SLEEPING).until(1, 6);
        Check.due("2 is a ZOMBIE", 3, first.told().process(2, 0));
        due = Look.at(first).stepped(1).gone(1).gone(2).but(Look.process(3, 1), 0).but(Look.sharing(3, 0), 1);
        due.due("EXIT of 1", first.run(1));
        Check.sentence("(ZOMBIES that come to have parent 0 too)");
        Story second = Story.boot(Code.call(Code.FORK), Code.zero(0, 3), Code.call(Code.EXIT), Code.call(Code.FORK),
            Code.zero(0, 10), Code.call(Code.FORK), Code.zero(0, 12), Code.call(Code.SLEEP, 60), Code.call(Code.EXIT),
            ENDING, SLEEPING).until(2, 9);
        Check.due("3 is a ZOMBIE", 3, second.told().process(3, 0));
        Check.due("of parent 2", 2, second.told().process(3, 1));
        due = Look.at(second).stepped(2).gone(2).gone(3).but(Look.process(4, 1), 0).but(Look.sharing(4, 0), 1);
        due.due("EXIT of 2, when 1 is not there", second.run(1));
        // The last one has no parent, and is no more.
        Story last = second.run(1).run(1);
        Look.at(last).stepped(4).gone(4).more(Look.total(1), 1).due("the last one", last.run(1));
    }

    private static void waits() {
        Check.sentence("Not if it is parent of none; BLOCKED while none is a ZOMBIE.");
        Edge.refused("alone", Story.boot(Code.set(1, 5), Code.call(Code.WAIT)).run(1), 1);
        Edge.refused("process 2, child of 1", Story.child(Code.call(Code.WAIT)), 2);
        Story last = Story.boot(Code.call(Code.FORK), Code.zero(0, 4), Code.call(Code.WAIT), Code.call(Code.WAIT)).until(1, 3);
        Edge.refused("its last child is no more", last, 1);
        Edge.blocks("its child is READY", Story.boot(Code.call(Code.FORK), Code.zero(0, 3), Code.call(Code.WAIT)).run(2), 1);
        Story grandchild = Story.boot(Code.call(Code.FORK), Code.zero(0, 5), Code.call(Code.SLEEP, 60), Code.call(Code.WAIT),
            Code.call(Code.FORK), Code.zero(0, 9), SLEEPING, Code.call(Code.EXIT)).until(1, 4);
        Check.due("3 is a ZOMBIE", 3, grandchild.told().process(3, 0));
        Check.due("2 sleeps", 2, grandchild.told().process(2, 0));
        Edge.blocks("a grandchild is a ZOMBIE", grandchild, 1);

        Check.sentence("of ZOMBIES whose parent it is, that of the least pid is no more; gives its pid, R1 is its status.");
        for (int status : new int[] {0, -1, MIN, MAX}) {
            Story before = Story.child(Code.set(0, status), Code.call(Code.EXIT)).run(2);
            Look due = Look.at(before).gave(1, 2).but(Look.process(1, 11), status).gone(2);
            due.due("status " + status, before.run(1));
        }
        Story all = Story.eight(ENDING, Code.call(Code.WAIT), Code.go(12));
        for (int pid = 2; pid <= 8; pid++) {
            Look.at(all).gave(1, pid).but(Look.process(1, 11), 1000).gone(pid).due("WAIT for " + pid, all.run(1));
            all = all.run(2);
        }
        Edge.refused("all are waited for", all, 1);
        // Process 1 is no more, and process 3 has slot 0.
        Story zero = Story.boot(Code.call(Code.FORK), Code.zero(0, 3), Code.call(Code.EXIT), Code.call(Code.FORK),
            Code.zero(0, 6), Code.call(Code.WAIT), Code.call(Code.EXIT, 9)).until(2, 5);
        Check.due("slot of 3", 0, zero.told().process(3, 6));
        Edge.blocks("its child in slot 0 is READY", zero, 2);
        Story ended = zero.run(4);
        Look.at(ended).gave(2, 3).but(Look.process(2, 11), 9).gone(3).due("its child in slot 0 is a ZOMBIE", ended.run(1));
        // Process 9 has a slot before that of 7, but a greater pid.
        Story slots = Story.eight(SLEEPING, Code.call(Code.KILL, 3), Code.call(Code.WAIT), Code.call(Code.FORK),
            Code.zero(0, 8), Code.call(Code.KILL, 9), Code.call(Code.KILL, 7), Code.call(Code.WAIT),
            Code.call(Code.WAIT)).until(1, 21);
        Check.due("slot of 9", 2, slots.told().process(9, 6));
        Look.at(slots).gave(1, 7).gone(7).due("7 before 9", slots.run(1));
        Look.at(slots.run(1)).gave(1, 9).gone(9).due("then 9", slots.run(2));
    }

    private static void kills() {
        Check.sentence("3 KILL pid R0 (no ZOMBIE): gives 0.");
        for (int pid : new int[] {0, -1, 2, 8, MIN, MAX}) {
            Edge.refused("KILL " + pid, Story.boot(Code.call(Code.KILL, pid), Code.go(2)).run(1), 1);
        }
        Story zombie = Story.boot(Code.call(Code.FORK), Code.zero(0, 6), Code.call(Code.SLEEP, 20), Code.call(Code.KILL, 2))
            .until(1, 5);
        Check.due("2 is a ZOMBIE", 3, zombie.told().process(2, 0));
        Edge.refused("KILL of a ZOMBIE", zombie, 1);
        Story gone = Story.boot(Code.call(Code.FORK), Code.zero(0, 5), Code.call(Code.WAIT), Code.call(Code.KILL, 2));
        Edge.refused("KILL of one that is no more", gone.until(1, 4), 1);

        Story sleeper = Story.boot(Code.call(Code.FORK), Code.zero(0, 6), Code.call(Code.SLEEP, 20), Code.call(Code.KILL, 2),
            SLEEPING).until(1, 5);
        Look due = Look.at(sleeper).gave(1, 0).zombie(2, -1).but(Look.sharing(1, 0), 1);
        due.due("KILL of one that sleeps", sleeper.run(1));
        Story ready = Story.boot(Code.call(Code.FORK), Code.call(Code.KILL)).run(1);
        due = Look.at(ready).gave(1, 0).zombie(2, -1).but(Look.sharing(1, 0), 1);
        due.due("KILL of one that did no step", ready.run(1));
        Story parent = Story.child(Code.call(Code.KILL, 1), Code.go(5)).run(1);
        due = Look.at(parent).gave(2, 0).gone(1).but(Look.process(2, 1), 0).but(Look.sharing(2, 0), 1);
        due.due("KILL of process 1", parent.run(1));
        Check.sentence("A process that KILLs itself has R0 0 then.");
        Story itself = Story.child(Code.call(Code.KILL, 2), Code.go(5)).run(1);
        due = Look.at(itself).gave(2, 0).zombie(2, -1).but(Look.process(1, 0), 1).but(Look.sharing(1, 0), 1);
        due.due("KILL of itself", itself.run(1));
        Story first = Story.boot(Code.call(Code.KILL, 1), Code.go(2)).run(1);
        Look.at(first).stepped(1).gone(1).more(Look.total(1), 1).due("KILL of itself by process 1", first.run(1));
    }

    /** Behind a KILL of process 2 its child 3 has parent 1. */
    private static void killedParent() {
        Check.sentence("the process is KILLED: that is EXIT with status -1.");
        Story before = Story.boot(Code.call(Code.FORK), Code.zero(0, 6), Code.call(Code.SLEEP, 60), Code.call(Code.KILL, 2),
            Code.call(Code.FORK), SLEEPING).until(1, 5);
        Check.due("parent of 3", 2, before.told().process(3, 1));
        Look due = Look.at(before).gave(1, 0).zombie(2, -1).but(Look.process(3, 1), 1);
        due = due.but(Look.sharing(1, 0), 2).but(Look.sharing(3, 0), 2);
        due.due("KILL of a parent", before.run(1));
    }

    private static void sleeps() {
        Check.sentence("14 SLEEP R0 (0..1000): BLOCKED until TIME is R0 more than behind this step; gives 0 then (at once if it is 0).");
        for (int length : new int[] {-1, 1001, MIN, MAX}) {
            Edge.refused("SLEEP " + length, Story.boot(Code.call(Code.SLEEP, length), Code.go(2)).run(1), 1);
        }
        Edge.gives("SLEEP 0", Story.boot(Code.call(Code.SLEEP, 0), Code.go(2)).run(1), 1, 0);
        for (int length : new int[] {1, 2, 999, 1000}) {
            Story before = Story.boot(Code.call(Code.SLEEP, length), Code.go(2)).run(1);
            Edge.blocks("SLEEP " + length, before, 1);
            Story asleep = before.run(1);
            Look due = Look.at(asleep).gave(1, 0).but(Look.process(1, 0), 1).more(Look.total(5), length);
            due.due("behind SLEEP " + length, asleep.run(1));
        }
        // Process 3 has the slot of process 2, which was KILLED in a longer SLEEP.
        Story slot = Story.boot(Code.call(Code.FORK), Code.zero(0, 9), Code.call(Code.SLEEP, 5), Code.call(Code.KILL, 2),
            Code.call(Code.WAIT), Code.call(Code.FORK), Code.zero(0, 11), SLEEPING, Code.call(Code.SLEEP, 7)).until(3, 12);
        Check.due("slot", 1, slot.told().process(3, 6));
        Edge.blocks("SLEEP in a slot that was used", slot, 3);
        // In the three steps behind that process 1 falls asleep.
        Look woken = Look.at(slot.run(4)).gave(3, 0).but(Look.process(3, 0), 1).more(Look.total(5), 7 - 3);
        woken.due("behind it", slot.run(5));
        // Process 1 sleeps at TIME 4, process 2 makes each TIME of the next ones.
        for (int length = 1; length <= 12; length++) {
            Story asleep = Story.boot(Code.call(Code.FORK), Code.zero(0, 4), Code.call(Code.SLEEP, length), Code.go(4)).run(4);
            for (int more = 1; more <= length; more++) {
                UnixDesk x = asleep.run(more).told();
                Check.due("TIME", 4 + more, x.total(5));
                Check.due("state after " + more + " of " + length, more < length ? 2 : 1, x.process(1, 0));
                Check.due("steps", 4, x.process(1, 7));
            }
        }
    }

    private static void placesOfZombies() {
        Check.sentence("process(pid, 3) of a ZOMBIE that ended by a step of its own: the instruction behind that one; of one that "
            + "ended behind the last instruction of its program, or by the KILL of another process: that at which it was.");
        int[][] own = {Code.call(Code.EXIT), Code.load(1, 3), Code.store(1, 3)};
        for (int[] last : own) {
            UnixDesk x = Story.child(Code.set(0, 2), Code.set(3, 4), last, Code.go(9)).run(3).told();
            Check.due("state", 3, x.process(2, 0));
            Check.due("behind its last step", 6, x.process(2, 3));
        }
        Check.due("KILL of itself", 5, Story.child(Code.call(Code.KILL, 2), Code.go(9)).run(2).told().process(2, 3));
        Check.due("behind the last one", 4, Story.child(Code.set(0, 2)).run(2).told().process(2, 3));
        Check.due("on at 23", 23, Story.child(Code.go(23)).run(2).told().process(2, 3));
        Story another = Story.boot(Code.call(Code.FORK), Code.zero(0, 4), Code.call(Code.KILL, 2), SLEEPING);
        Check.due("KILL by another one", 1, another.run(4).told().process(2, 3));
    }

    public static void main(String[] args) {
        atMostEight();
        forks();
        leastSlot();
        pids();
        exitStatus();
        heirs();
        waits();
        kills();
        killedParent();
        sleeps();
        placesOfZombies();
        Check.finish();
    }
}
