/** The edges of pages and frames: GROW, STORE to a page that is shared, FORK and EXEC. */
public final class PageEdgesTest {
    private static final int MIN = Edge.MIN, MAX = Edge.MAX;
    private static final int[][] GROW_7 = Code.call(Code.GROW, 7);
    private static final int[][] SLEEPING = Code.call(Code.SLEEP, 1000);

    /** Processes 2 and 3 have 8 pages each, process 1 one: 3 frames are FREE. The parts begin at 11. */
    private static Story frames(Object... parts) {
        Story story = Story.three(GROW_7, GROW_7, parts);
        Check.due("FREE frames", 3, story.told().total(1));
        return story;
    }

    private static Look grown(Story before, int by) {
        Look due = Look.at(before);
        int had = due.answer(Look.process(1, 4));
        due = due.gave(1, had).but(Look.process(1, 4), had + by).more(Look.total(1), -by);
        for (int page = had; page < had + by; page++) due = due.but(Look.sharing(1, page), 1);
        return due;
    }

    private static void grows() {
        for (int had = 1; had <= 8; had++) {
            for (int by = -1; by <= 9; by++) {
                Story before = Story.boot(Code.call(Code.GROW, had - 1), Code.call(Code.GROW, by), Code.go(4)).run(3);
                if (by < 0 || by > 7) {
                    Check.sentence("4 GROW by R0 (0..7) pages of zeros: gives how many it had.");
                    Edge.refused("GROW by " + by, before, 1);
                } else if (had + by > 8) {
                    Check.sentence("Not if there are more than 8 then");
                    Edge.refused(had + " GROW by " + by, before, 1);
                } else {
                    Check.sentence("1 to 8 PAGES of 4 words");
                    grown(before, by).due(had + " GROW by " + by, before.run(1));
                }
            }
        }
        for (int by : new int[] {MIN, MAX, MAX - 6}) {
            Edge.refused("GROW by " + by, Story.boot(Code.call(Code.GROW, by), Code.go(2)).run(1), 1);
        }
    }

    private static void framesRunOut() {
        Check.sentence("There are 20 FRAMES.");
        for (int by = 0; by <= 3; by++) {
            Story before = frames(Code.call(Code.GROW, by), Code.go(13)).run(1);
            grown(before, by).due("GROW by " + by + " of 3", before.run(1));
            Check.due("FREE", 3 - by, before.run(1).told().total(1));
        }
        Check.sentence("or not as many FREE frames");
        for (int by = 4; by <= 7; by++) {
            Edge.refused("GROW by " + by + " of 3", frames(Code.call(Code.GROW, by), Code.go(13)).run(1), 1);
        }
        for (int by = 1; by <= 4; by++) {
            Edge.refused("GROW by " + by + " of 0",
                frames(Code.call(Code.GROW, 3), Code.call(Code.GROW, by), Code.go(15)).run(3), 1);
        }
        Edge.gives("GROW by 0 of 0", frames(Code.call(Code.GROW, 3), Code.call(Code.GROW, 0), Code.go(15)).run(3), 1, 4);
    }

    /** Process 1, that did GROW, shares its pages with process 4, which sleeps; it is to STORE 77 at 0 next, then to LOAD. */
    private static Story sharing(int by) {
        return frames(Code.call(Code.GROW, by), Code.call(Code.FORK), Code.zero(0, 21), Code.call(Code.SLEEP, 60),
            Code.set(3, 77), Code.store(3, 1), Code.load(2, 1), Code.go(20), SLEEPING).until(1, 18);
    }

    private static void storesToShared() {
        Check.sentence("A page that is written to (STORE) while another one has its frame, too, gets a FREE one, with the same "
            + "words, first.");
        for (int by = 0; by <= 2; by++) {
            Story before = sharing(by);
            Look due = Look.at(before).went(1).but(Look.memory(1, 0), 77).but(Look.process(1, 8), 1);
            due = due.more(Look.total(1), -1).but(Look.sharing(1, 0), 1).but(Look.sharing(4, 0), 1);
            due.due("STORE with " + (3 - by) + " FREE", before.run(1));
        }
        Check.sentence("If none is FREE, or an address is not within its pages, the process is KILLED");
        Story before = sharing(3);
        Check.due("FREE", 0, before.told().total(1));
        Look due = Look.at(before).stepped(1).gone(1);
        for (int pid = 2; pid <= 4; pid++) due = due.but(Look.process(pid, 1), 0);
        for (int page = 0; page < 4; page++) due = due.but(Look.sharing(4, page), 1);
        due.due("STORE with none FREE", before.run(1));

        // The same by process 4, of which a ZOMBIE is left.
        Story child = frames(Code.call(Code.GROW, 3), Code.call(Code.FORK), Code.zero(0, 16), Code.call(Code.WAIT),
            Code.set(3, 77), Code.store(3, 1), Code.go(18)).until(4, 17);
        due = Look.at(child).went(4).zombie(4, -1).but(Look.process(1, 0), 1);
        for (int page = 0; page < 4; page++) due = due.but(Look.sharing(1, page), 1);
        due.due("STORE of process 4 with none FREE", child.run(1));
    }

    private static void sameWords() {
        Check.sentence("gets a FREE one, with the same words, first.");
        for (int address = 0; address < 32; address++) {
            // The words of a page of processes 1 and 2 are 5 to 8.
            int page = address / 4;
            int[][] words = Code.join(GROW_7, Code.set(1, 1), Code.set(3, 5), Code.set(2, 4 * page));
            for (int k = 0; k < 4; k++) words = Code.join(words, Code.store(3, 2), Code.add(2, 1), Code.add(3, 1));
            words = Code.join(words, Code.call(Code.FORK), Code.zero(0, 20), Code.call(Code.WAIT));
            Story before = Story.boot(words, Code.set(2, address), Code.set(3, 99), Code.store(3, 2)).until(2, 22);
            for (int k = 0; k < 4; k++) Check.due("word " + k, 5 + k, before.told().memory(2, 4 * page + k));
            Look due = Look.at(before).went(2).but(Look.memory(2, address), 99).but(Look.process(2, 8), 1);
            due = due.more(Look.total(1), -1).but(Look.sharing(1, page), 1).but(Look.sharing(2, page), 1);
            due.due("STORE at " + address, before.run(1));
        }
    }

    private static void zeros() {
        Check.sentence("4 GROW by R0 (0..7) pages of zeros: gives how many it had.");
        // All 32 words are ones, then the frames are FREE, and come again.
        Story ones = Story.begin().program(5, (Object) GROW_7).program(0, GROW_7, Code.set(1, 1), Code.store(1, 2),
            Code.add(2, 1), Code.set(3, 32), Code.sub(3, 2), Code.zero(3, 9), Code.go(3), Code.call(Code.EXEC, 5)).boot(0)
            .run(3 + 32 * 6 - 1 + 1);
        for (int address = 0; address < 32; address++) Check.due("word " + address, 1, ones.told().memory(1, address));
        Look.at(ones).executed(1, 5).but(Look.total(1), 19).due("EXEC", ones.run(1));
        Story grows = ones.run(2);
        grown(grows, 7).due("GROW", grows.run(1));
        UnixDesk x = ones.crash(1).boot(5).run(2).told();
        Check.due("pages", 8, x.process(1, 4));
        for (int address = 0; address < 32; address++) Check.due("word " + address, 0, x.memory(1, address));
    }

    private static void noFrameNeeded() {
        Check.sentence("A page that is written to (STORE) while another one has its frame, too");
        Story own = frames(Code.call(Code.GROW, 3), Code.set(3, 77), Code.store(3, 1), Code.go(15)).run(3);
        Look.at(own).went(1).but(Look.memory(1, 0), 77).due("STORE to its own page, none FREE", own.run(1));
        Story copied = sharing(2).run(1);
        Check.due("FREE", 0, copied.told().total(1));
        Look.at(copied).went(1).but(Look.process(1, 12), 77).due("LOAD, none FREE", copied.run(1));
        Story load = frames(Code.call(Code.GROW, 3), Code.call(Code.FORK), Code.zero(0, 18), Code.call(Code.SLEEP, 60),
            Code.set(3, 7), Code.load(3, 1), SLEEPING).until(1, 18);
        Check.due("shared by two", 2, load.told().sharing(1, 0));
        Look.at(load).went(1).but(Look.process(1, 13), 0).due("LOAD of a shared page, none FREE", load.run(1));
        // When the other one is gone, the last one writes to the frame without a copy.
        Story last = frames(Code.call(Code.GROW, 3), Code.call(Code.FORK), Code.zero(0, 18), Code.call(Code.WAIT),
            Code.set(3, 77), Code.store(3, 1)).until(1, 17);
        Check.due("FREE", 0, last.told().total(1));
        Look.at(last).went(1).but(Look.memory(1, 0), 77).due("STORE of the last one", last.run(1));
    }

    private static void forks() {
        Check.sentence("those of a forked process have the same ones");
        Story full = frames(Code.call(Code.GROW, 3), Code.call(Code.FORK)).run(2);
        Look.at(full).forked(1, 4, 3).due("FORK needs no FREE frame", full.run(1));
        UnixDesk x = Story.eight(SLEEPING).told();
        for (int pid = 1; pid <= 8; pid++) Check.due("all eight share", 8, x.sharing(pid, 0));
        Check.due("one frame for all", 19, x.total(1));
        Story wide = Story.boot(GROW_7, Code.set(1, 31), Code.store(1, 1), Code.call(Code.FORK)).run(4);
        Look.at(wide).forked(1, 2, 1).due("FORK with 8 pages", wide.run(1));
    }

    private static void copiesCount() {
        Check.sentence("8 how often a page of it got a FREE frame to be written to (one page may count several times)");
        Story story = Story.boot(Code.call(Code.FORK), Code.zero(0, 4), Code.store(0, 1), Code.go(0), SLEEPING);
        for (int copies = 1; copies <= 7; copies++) {
            story = story.until(1, 3);
            UnixDesk x = story.told();
            Check.due("copies", copies, x.process(1, 8));
            Check.due("word", copies + 1, x.memory(1, 0));
            Check.due("process 2 copied none", 0, x.process(2, 8));
            Check.due("FREE frames", 19 - copies, x.total(1));
            story = story.until(1, 0);
        }
    }

    private static void execs() {
        Check.sentence("5 EXEC program R0 (0..5): its pages go, it has one of zeros (KILLED if there is no FREE frame then), "
            + "registers 0, and goes on at instruction 0 of it.");
        // A word at 3 and at 7, two pages, a pipe, all registers in use.
        Object[] life = {Code.call(Code.PIPE), Code.call(Code.GROW, 1), Code.set(1, 3), Code.store(1, 1), Code.set(2, 7),
            Code.store(2, 2), Code.set(3, 9)};
        for (int program : new int[] {-1, 6, MIN, MAX}) {
            Edge.refused("EXEC " + program, Story.boot(Code.join(life), Code.call(Code.EXEC, program)).run(9), 1);
        }
        for (int program = 0; program <= 5; program++) {
            Story before = Story.boot(Code.join(life), Code.call(Code.EXEC, program)).run(9);
            Look.at(before).executed(1, program).more(Look.total(1), 1).due("EXEC " + program, before.run(1));
        }
        Story empty = Story.boot(Code.set(0, 4), Code.call(Code.EXEC)).run(2);
        Look.at(empty).stepped(1).gone(1).more(Look.total(1), 1).due("an empty program ends at once", empty.run(1));
        Check.sentence("EXEC leaves descriptors, what 7 and what 8 of process as they are.");
        Story copied = Story.boot(Code.call(Code.PIPE), Code.call(Code.FORK), Code.store(0, 1), Code.call(Code.EXEC, 3)).run(4);
        Check.due("copied", 1, copied.told().process(1, 8));
        // R1 is the end for writing: address 1.
        Look.at(copied).executed(1, 3).due("EXEC behind a copy", copied.run(1));
        Story shared = Story.boot(Code.call(Code.FORK), Code.call(Code.EXEC, 3)).run(2);
        Look due = Look.at(shared).executed(1, 3).more(Look.total(1), -1).but(Look.sharing(2, 0), 1);
        due.due("EXEC with a shared page", shared.run(1));
    }

    private static void execWithoutFrames() {
        Check.sentence("(KILLED if there is no FREE frame then)");
        Story own = frames(Code.call(Code.GROW, 3), Code.call(Code.EXEC, 5)).run(3);
        Check.due("FREE", 0, own.told().total(1));
        Look.at(own).executed(1, 5).but(Look.total(1), 3).due("its own pages are FREE then", own.run(1));
        // Process 4 has 3 pages of its own: process 1 has the 20th frame.
        Story one = frames(Code.call(Code.FORK), Code.zero(0, 17), Code.call(Code.SLEEP, 60), Code.call(Code.EXEC, 5),
            Code.store(0, 1), Code.call(Code.GROW, 2), SLEEPING).until(1, 16);
        Check.due("FREE", 0, one.told().total(1));
        Check.due("one page", 1, one.told().process(1, 4));
        Look.at(one).executed(1, 5).due("its own page is FREE then", one.run(1));
        // Process 4 shares 2 of its pages with process 1 and has one of its own.
        Story some = frames(Code.call(Code.GROW, 2), Code.call(Code.FORK), Code.zero(0, 16), Code.call(Code.WAIT),
            Code.store(0, 1), Code.call(Code.EXEC, 5)).until(4, 18);
        Check.due("FREE", 0, some.told().total(1));
        Look due = Look.at(some).executed(4, 5).but(Look.sharing(1, 1), 1).but(Look.sharing(1, 2), 1);
        due.due("one of its pages is FREE then", some.run(1));
        Check.sentence("EXEC that is KILLED: program and registers of the process stay as they were.");
        Story none = frames(Code.call(Code.GROW, 3), Code.call(Code.FORK), Code.zero(0, 16), Code.call(Code.WAIT),
            Code.set(1, 8), Code.set(3, 9), Code.call(Code.EXEC, 5)).until(4, 19);
        Check.due("FREE", 0, none.told().total(1));
        due = Look.at(none).went(4).zombie(4, -1).but(Look.process(1, 0), 1);
        for (int page = 0; page < 4; page++) due = due.but(Look.sharing(1, page), 1);
        due.due("all its pages are shared", none.run(1));
        Edge.refused("no such program, none FREE", frames(Code.call(Code.GROW, 3), Code.call(Code.EXEC, 6)).run(3), 1);
    }

    public static void main(String[] args) {
        grows();
        framesRunOut();
        storesToShared();
        sameWords();
        zeros();
        noFrameNeeded();
        forks();
        copiesCount();
        execs();
        execWithoutFrames();
        Check.finish();
    }
}
