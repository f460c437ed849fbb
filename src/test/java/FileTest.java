/** Promises 10 to 13: OPEN, READ, WRITE, SEEK, CLOSE, DUP, LINK and UNLINK of files. */
public final class FileTest {
    private static final int BAD = UnixDesk.BAD;

    private static void file(String what, UnixDesk x, int i, int... due) {
        for (int k = 0; k < due.length; k++) {
            Check.due(what + ": file(" + i + ", " + k + ")", due[k], x.file(i, k));
        }
    }

    private static void descriptor(String what, UnixDesk x, int d, int... due) {
        for (int k = 0; k < due.length; k++) {
            Check.due(what + ": descriptor(1, " + d + ", " + k + ")", due[k], x.descriptor(1, d, k));
        }
    }

    private static void questions() {
        UnixDesk x = Code.after(6, Code.call(Code.OPEN, 7, 7), Code.call(Code.WRITE, 0, 5), Code.go(6));
        int[] none = {-1, 8, Integer.MIN_VALUE, Integer.MAX_VALUE};
        for (int k : none) {
            Check.due("name " + k, -1, x.name(k));
            Check.due("file " + k, BAD, x.file(k, 0));
            Check.due("file what " + k, BAD, x.file(0, k));
            Check.due("word of file " + k, 0, x.word(k, 0));
            Check.due("word " + k, 0, x.word(0, k));
            Check.due("descriptor " + k, BAD, x.descriptor(1, k, 0));
            Check.due("descriptor what " + k, BAD, x.descriptor(1, 0, k));
            Check.due("descriptor of process " + k, BAD, x.descriptor(k, 0, 0));
            Check.due("free descriptor what " + k, BAD, x.descriptor(1, 1, k));
        }
        Check.due("descriptor 6", BAD, x.descriptor(1, 6, 0));
        Check.due("descriptor what 4", BAD, x.descriptor(1, 0, 4));
        Check.due("file what 3", BAD, x.file(0, 3));
        descriptor("free", x, 5, 0, BAD, BAD, BAD);
        descriptor("file", x, 0, 1, 0, 1, 1);
        file("one word", x, 0, 1, 1, 1);
        file("FREE", x, 1, BAD, BAD, BAD);
        Check.due("word", 5, x.word(0, 0));
        Check.due("name", 0, x.name(7));
        Check.due("none", -1, x.name(0));
    }

    private static void zombieHasNoDescriptors() {
        UnixDesk x = Code.booted(Code.call(Code.PIPE), Code.call(Code.FORK), Code.zero(0, 4), Code.go(3),
            Code.call(Code.EXIT));
        Check.due("run", 7, x.run(7));
        Check.due("ZOMBIE", 3, x.process(2, 0));
        Check.due("descriptor", BAD, x.descriptor(2, 0, 0));
        Check.due("free descriptor", BAD, x.descriptor(2, 5, 0));
        Check.due("holders", 1, x.descriptor(1, 0, 3));
    }

    private static void modes() {
        int[] bad = {0, 4, 8, 12, 9, 13, 16, 17, -1, Integer.MIN_VALUE, Integer.MAX_VALUE};
        for (int mode : bad) {
            UnixDesk x = Code.after(4, Code.call(Code.OPEN, 1, mode), Code.go(3), Code.go(3));
            Check.due("OPEN with mode " + mode, -1, x.process(1, 10));
            Check.due("no name", -1, x.name(1));
            Check.due("no CHANGES", 0, x.total(7));
        }
        int[] withoutMake = {1, 2, 3, 10, 11};
        for (int mode : withoutMake) {
            UnixDesk x = Code.after(3, Code.call(Code.OPEN, 1, mode), Code.go(3));
            Check.due("OPEN of no name with mode " + mode, -1, x.process(1, 10));
            Check.due("no open file", 0, x.total(8));
        }
        int[] make = {5, 6, 7, 14, 15};
        for (int mode : make) {
            UnixDesk x = Code.after(3, Code.call(Code.OPEN, 1, mode), Code.go(3));
            Check.due("OPEN with mode " + mode, 0, x.process(1, 10));
            Check.due("name", 0, x.name(1));
            file("new", x, 0, 0, 1, 1);
            descriptor("new", x, 0, 1, 0, 0, 1);
            Check.due("one CHANGE", 1, x.total(7));
        }
        int[] names = {-1, 8, Integer.MIN_VALUE, Integer.MAX_VALUE};
        for (int name : names) {
            UnixDesk x = Code.after(3, Code.call(Code.OPEN, name, 7), Code.go(3));
            Check.due("OPEN of name " + name, -1, x.process(1, 10));
            Check.due("files", 8, x.total(3));
        }
    }

    /** Each mode of a file that is there: what it lets be done. */
    private static void uses() {
        for (int mode = 1; mode <= 15; mode++) {
            boolean fails = (mode & 3) == 0 || (mode & 10) == 8;
            boolean reads = !fails && (mode & 9) == 1;
            boolean writes = !fails && (mode & 2) != 0;
            UnixDesk x = new UnixDesk();
            Code.runToEnd(x, Code.call(Code.OPEN, 3, 6), Code.call(Code.WRITE, 0, 5), Code.call(Code.WRITE, 0, 6));
            Check.due("CHANGES", 3, x.total(7));
            Code.boot(x, Code.call(Code.OPEN, 3, mode), Code.call(Code.READ, 0, 9), Code.go(7), Code.call(Code.WRITE, 0, 8),
                Code.go(10));
            Check.due("run", 3, x.run(3));
            Check.due("OPEN with mode " + mode, fails ? -1 : 0, x.process(1, 10));
            boolean empties = !fails && (mode & 8) != 0;
            Check.due("size with mode " + mode, empties ? 0 : 2, x.file(0, 0));
            Check.due("CHANGES with mode " + mode, empties ? 4 : 3, x.total(7));
            Check.due("run", 3, x.run(3));
            int read = reads ? 1 : !fails && (mode & 1) != 0 ? 0 : -1;
            Check.due("READ with mode " + mode, read, x.process(1, 10));
            Check.due("word with mode " + mode, reads ? 5 : 9, x.process(1, 11));
            Check.due("run", 4, x.run(4));
            Check.due("WRITE with mode " + mode, writes ? 1 : -1, x.process(1, 10));
        }
    }

    private static void places() {
        UnixDesk x = Code.booted(
            Code.call(Code.OPEN, 0, 7), Code.call(Code.WRITE, 0, 10), Code.call(Code.WRITE, 0, 20),
            Code.call(Code.SEEK, 0, 0), Code.call(Code.READ, 0), Code.call(Code.WRITE, 0, 21), Code.call(Code.READ, 0),
            Code.go(19));
        Check.due("run", 9, x.run(9));
        descriptor("two words", x, 0, 1, 0, 2, 1);
        Check.due("run", 3, x.run(3));
        Check.due("SEEK gives 0", 0, x.process(1, 10));
        descriptor("SEEK", x, 0, 1, 0, 0, 1);
        Check.due("run", 2, x.run(2));
        Check.due("READ gives 1", 1, x.process(1, 10));
        Check.due("the word", 10, x.process(1, 11));
        descriptor("READ", x, 0, 1, 0, 1, 1);
        Check.due("run", 3, x.run(3));
        Check.due("WRITE gives 1", 1, x.process(1, 10));
        Check.due("R1 stays", 21, x.process(1, 11));
        Check.due("in the place of the old one", 21, x.word(0, 1));
        Check.due("size", 2, x.file(0, 0));
        Check.due("run", 2, x.run(2));
        Check.due("0 at the end", 0, x.process(1, 10));
        Check.due("R1 stays", 21, x.process(1, 11));
        descriptor("at the end", x, 0, 1, 0, 2, 1);
        Check.due("CHANGES", 4, x.total(7));
    }

    /** Words of the second file, one behind the other. */
    private static void readsOn() {
        UnixDesk x = new UnixDesk();
        Code.runToEnd(x, Code.call(Code.OPEN, 0, 6), Code.call(Code.WRITE, 0, 1), Code.call(Code.OPEN, 1, 6),
            Code.call(Code.WRITE, 1, 10), Code.call(Code.WRITE, 1, 20), Code.call(Code.WRITE, 1, 30));
        Code.boot(x, Code.call(Code.OPEN, 1, 1), Code.set(0, 0), Code.call(Code.READ), Code.go(3));
        // Two steps of OPEN first: each three steps then end with a READ.
        Check.due("run", 2, x.run(2));
        int[] due = {10, 20, 30};
        for (int word : due) {
            Check.due("run", 3, x.run(3));
            Check.due("READ gives 1", 1, x.process(1, 10));
            Check.due("the word", word, x.process(1, 11));
        }
    }

    private static void seeks() {
        int[][] due = {{-1, -1}, {0, 0}, {1, 0}, {2, 0}, {3, -1}, {16, -1}, {Integer.MIN_VALUE, -1}};
        for (int[] d : due) {
            UnixDesk x = Code.after(12, Code.call(Code.OPEN, 0, 7), Code.call(Code.WRITE, 0, 10),
                Code.call(Code.WRITE, 0, 20), Code.call(Code.SEEK, 0, d[0]), Code.go(12));
            Check.due("SEEK " + d[0], d[1], x.process(1, 10));
            Check.due("PLACE", d[1] == 0 ? d[0] : 2, x.descriptor(1, 0, 2));
            Check.due("SEEK is no CHANGE", 3, x.total(7));
        }
        UnixDesk reader = Code.after(6, Code.call(Code.OPEN, 0, 5), Code.call(Code.SEEK, 0, 0), Code.go(6));
        Check.due("SEEK of one that only reads", 0, reader.process(1, 10));
    }

    /** 16 words; the next WRITE gives 0. PLACE is one for all descriptors of an open file. */
    private static void fullFile() {
        UnixDesk x = Code.booted(
            Code.call(Code.OPEN, 4, 7), Code.move(2, 0), Code.set(3, 1), Code.add(1, 3), Code.move(0, 2),
            Code.call(Code.WRITE), Code.zero(0, 12), Code.go(6), Code.go(12));
        // OPEN comes with R1 7, so the words are 8, 9, ..
        Check.due("run", 6 + 16 * 6, x.run(6 + 16 * 6));
        Check.due("size", 16, x.file(0, 0));
        Check.due("PLACE", 16, x.descriptor(1, 0, 2));
        Check.due("CHANGES", 17, x.total(7));
        Check.due("FREE blocks", 12, x.total(2));
        Check.due("run", 6, x.run(6));
        Check.due("at the end of it", 12, x.process(1, 3));
        Check.due("WRITE gave 0", 0, x.process(1, 10));
        Check.due("size", 16, x.file(0, 0));
        Check.due("PLACE", 16, x.descriptor(1, 0, 2));
        Check.due("CHANGES", 17, x.total(7));
        for (int k = 0; k < 16; k++) {
            Check.due("word " + k, 8 + k, x.word(0, k));
        }
        Check.due("word 16", 0, x.word(0, 16));
    }

    private static void blocksBySize() {
        UnixDesk x = Code.booted(Code.call(Code.OPEN, 4, 7), Code.set(0, 0), Code.call(Code.WRITE), Code.go(3));
        Check.due("run", 3, x.run(3));
        for (int size = 0; size <= 16; size++) {
            Check.due("size", size, x.file(0, 0));
            Check.due("FREE blocks at size " + size, 16 - (size + 3) / 4, x.total(2));
            Check.due("run", 3, x.run(3));
        }
    }

    private static void fillAndCommit(UnixDesk x, int k, int words) {
        Code.boot(x, Code.call(Code.OPEN, k, 7), Code.set(0, 0), Code.call(Code.WRITE), Code.zero(0, 7), Code.go(3),
            Code.call(Code.COMMIT));
        Check.due("fills name " + k, 3 + words * 4 + 3 + 2, x.run(200));
    }

    /** Four full files have all blocks: a fifth one can be made, but gets no word until one of them is emptied. */
    private static void blocksRunOut() {
        UnixDesk x = new UnixDesk();
        for (int k = 0; k < 4; k++) {
            fillAndCommit(x, k, 16);
            Check.due("FREE blocks", 12 - 4 * k, x.total(2));
        }
        Code.boot(x, Code.call(Code.OPEN, 6, 7), Code.call(Code.WRITE, 0, 5), Code.call(Code.OPEN, 0, 11),
            Code.call(Code.WRITE, 0, 6), Code.go(12));
        Check.due("run", 3, x.run(3));
        Check.due("a file of size 0 needs none", 0, x.process(1, 10));
        file("fifth", x, 4, 0, 1, 1);
        Check.due("CHANGES", 1, x.total(7));
        Check.due("run", 3, x.run(3));
        Check.due("WRITE gives 0", 0, x.process(1, 10));
        file("fifth", x, 4, 0, 1, 1);
        Check.due("PLACE", 0, x.descriptor(1, 0, 2));
        Check.due("CHANGES", 1, x.total(7));
        Check.due("run", 3, x.run(3));
        Check.due("emptied", 4, x.total(2));
        Check.due("run", 3, x.run(3));
        Check.due("WRITE gives 1", 1, x.process(1, 10));
        Check.due("word", 6, x.word(4, 0));
        Check.due("FREE blocks", 3, x.total(2));
    }

    /** A word in the middle, or in a block that is begun, needs no further block. */
    private static void noBlockNeeded() {
        UnixDesk x = new UnixDesk();
        Code.runToEnd(x, Code.call(Code.OPEN, 7, 6), Code.call(Code.WRITE, 0, 1), Code.call(Code.COMMIT));
        for (int k = 0; k < 3; k++) {
            fillAndCommit(x, k, 16);
        }
        fillAndCommit(x, 3, 12);
        Check.due("FREE blocks", 0, x.total(2));
        file("twelve words", x, 4, 12, 1, 0);
        Code.boot(x, Code.call(Code.OPEN, 3, 2), Code.call(Code.WRITE, 0, 77), Code.call(Code.OPEN, 7, 2),
            Code.call(Code.WRITE, 1, 78), Code.call(Code.WRITE, 1, 79), Code.go(15));
        Check.due("run", 15, x.run(15));
        Check.due("in the middle", 77, x.word(4, 0));
        Check.due("in the middle", 78, x.word(0, 0));
        Check.due("in a block that is begun", 79, x.word(0, 1));
    }

    /** An open file's PLACE may be behind the size of a file that was emptied by another one. */
    private static void behindTheSize() {
        UnixDesk x = Code.booted(
            Code.call(Code.OPEN, 5, 7), Code.call(Code.WRITE, 0, 10), Code.call(Code.WRITE, 0, 20),
            Code.call(Code.OPEN, 5, 10), Code.call(Code.READ, 0, 9), Code.call(Code.SEEK, 0, 1),
            Code.call(Code.WRITE, 0, 30), Code.go(21));
        Check.due("run", 12, x.run(12));
        file("emptied", x, 0, 0, 1, 2);
        descriptor("PLACE stays", x, 0, 1, 0, 2, 1);
        descriptor("PLACE of the other one", x, 1, 1, 0, 0, 1);
        Check.due("word", 0, x.word(0, 0));
        Check.due("run", 3, x.run(3));
        Check.due("READ at the end", 0, x.process(1, 10));
        Check.due("R1 stays", 9, x.process(1, 11));
        descriptor("PLACE stays", x, 0, 1, 0, 2, 1);
        Check.due("run", 3, x.run(3));
        Check.due("SEEK behind the size", -1, x.process(1, 10));
        Check.due("run", 3, x.run(3));
        Check.due("WRITE at the size", 30, x.word(0, 0));
        descriptor("PLACE is behind that word", x, 0, 1, 0, 1, 1);
        file("one word", x, 0, 1, 1, 2);
    }

    private static void sharedOpenFile() {
        UnixDesk x = Code.booted(
            Code.call(Code.OPEN, 2, 7), Code.call(Code.DUP, 0), Code.call(Code.OPEN, 2, 3), Code.call(Code.WRITE, 1, 10),
            Code.call(Code.CLOSE, 0), Code.call(Code.FORK), Code.go(14));
        Check.due("run", 5, x.run(5));
        Check.due("DUP gives the descriptor", 1, x.process(1, 10));
        descriptor("two have it", x, 0, 1, 0, 0, 2);
        Check.due("run", 6, x.run(6));
        descriptor("one PLACE", x, 0, 1, 0, 1, 2);
        descriptor("one PLACE", x, 1, 1, 0, 1, 2);
        descriptor("another open file", x, 2, 1, 0, 0, 1);
        file("two open files", x, 0, 1, 1, 2);
        Check.due("open files", 2, x.total(8));
        Check.due("run", 2, x.run(2));
        Check.due("CLOSE gives 0", 0, x.process(1, 10));
        descriptor("closed", x, 0, 0, BAD, BAD, BAD);
        descriptor("open yet", x, 1, 1, 0, 1, 1);
        Check.due("open files", 2, x.total(8));
        Check.due("run", 1, x.run(1));
        descriptor("also of the forked one", x, 1, 1, 0, 1, 2);
        Check.due("holders", 2, x.descriptor(2, 2, 3));
        file("two open files", x, 0, 1, 1, 2);
    }

    private static void leastDescriptors() {
        UnixDesk x = Code.booted(
            Code.set(1, 7), Code.call(Code.OPEN, 0), Code.call(Code.OPEN, 1), Code.call(Code.OPEN, 2),
            Code.call(Code.CLOSE, 1), Code.call(Code.DUP, 2), Code.call(Code.DUP, 0), Code.call(Code.DUP, 0),
            Code.call(Code.DUP, 0), Code.call(Code.DUP, 0), Code.call(Code.OPEN, 0), Code.go(21));
        Check.due("run", 11, x.run(11));
        Check.due("DUP took", 1, x.process(1, 10));
        Check.due("the same file", 2, x.descriptor(1, 1, 1));
        for (int d = 3; d < 6; d++) {
            Check.due("run", 2, x.run(2));
            Check.due("DUP took", d, x.process(1, 10));
        }
        Check.due("run", 2, x.run(2));
        Check.due("none is free", -1, x.process(1, 10));
        Check.due("run", 2, x.run(2));
        Check.due("nor for OPEN", -1, x.process(1, 10));
        Check.due("open files", 2, x.total(8));
    }

    /** Process 1 has no free descriptor, process 2 behind it has all free. */
    private static void sixDescriptors() {
        UnixDesk x = Code.booted(
            Code.call(Code.FORK), Code.zero(0, 10), Code.call(Code.PIPE), Code.call(Code.PIPE), Code.call(Code.PIPE),
            Code.call(Code.DUP, 0), Code.call(Code.OPEN, 0, 7), Code.go(10));
        Check.due("run", 5 + 5 + 2, x.run(12));
        Check.due("DUP", -1, x.process(1, 10));
        Check.due("run", 3, x.run(3));
        Check.due("OPEN", -1, x.process(1, 10));
        Check.due("process 2 has none", 0, x.descriptor(2, 0, 0));
        Check.due("files", 8, x.total(3));
    }

    private static void links() {
        UnixDesk x = Code.booted(
            Code.call(Code.OPEN, 2, 7), Code.call(Code.LINK, 2, 5), Code.call(Code.UNLINK, 2), Code.call(Code.WRITE, 0, 4),
            Code.call(Code.UNLINK, 5), Code.call(Code.CLOSE, 0), Code.go(15));
        Check.due("run", 6, x.run(6));
        Check.due("LINK gives 0", 0, x.process(1, 10));
        Check.due("name 5", 0, x.name(5));
        Check.due("name 2", 0, x.name(2));
        file("two names", x, 0, 0, 2, 1);
        Check.due("CHANGES", 2, x.total(7));
        Check.due("run", 2, x.run(2));
        Check.due("UNLINK gives 0", 0, x.process(1, 10));
        Check.due("name 2", -1, x.name(2));
        file("one name", x, 0, 0, 1, 1);
        Check.due("CHANGES", 3, x.total(7));
        Check.due("run", 5, x.run(5));
        file("no name", x, 0, 1, 0, 1);
        Check.due("FREE files", 7, x.total(3));
        Check.due("FREE blocks", 15, x.total(2));
        Check.due("CHANGES", 5, x.total(7));
        Check.due("run", 2, x.run(2));
        file("FREE", x, 0, BAD, BAD, BAD);
        Check.due("word", 0, x.word(0, 0));
        Check.due("FREE files", 8, x.total(3));
        Check.due("FREE blocks", 16, x.total(2));
        Check.due("CLOSE is no CHANGE", 5, x.total(7));
    }

    private static void badLinks() {
        int[][] bad = {{0, 2}, {0, 0}, {1, 3}, {-1, 2}, {8, 2}, {0, -1}, {0, 8}, {Integer.MAX_VALUE, Integer.MIN_VALUE}};
        for (int[] names : bad) {
            UnixDesk x = Code.after(9, Code.call(Code.OPEN, 0, 7), Code.call(Code.OPEN, 2, 7),
                Code.call(Code.LINK, names[0], names[1]), Code.go(9));
            Check.due("LINK " + names[0] + ", " + names[1], -1, x.process(1, 10));
            Check.due("CHANGES", 2, x.total(7));
            Check.due("name 0", 0, x.name(0));
            Check.due("name 2", 1, x.name(2));
            Check.due("name 3", -1, x.name(3));
        }
        int[] none = {1, -1, 8, Integer.MIN_VALUE};
        for (int name : none) {
            UnixDesk x = Code.after(5, Code.call(Code.OPEN, 0, 7), Code.call(Code.UNLINK, name), Code.go(5));
            Check.due("UNLINK " + name, -1, x.process(1, 10));
            Check.due("CHANGES", 1, x.total(7));
        }
    }

    /** A new file is the least FREE one, of size 0, and all eight can be in use while there are names left. */
    private static void leastFile() {
        UnixDesk x = new UnixDesk();
        Code.runToEnd(x, Code.set(1, 6), Code.call(Code.OPEN, 0), Code.call(Code.OPEN, 1), Code.call(Code.OPEN, 2),
            Code.call(Code.WRITE, 1, 99), Code.call(Code.UNLINK, 1));
        file("FREE by the end of the process", x, 1, BAD, BAD, BAD);
        Code.runToEnd(x, Code.call(Code.OPEN, 7, 6), Code.call(Code.EXIT));
        Check.due("the least FREE one", 1, x.name(7));
        file("new", x, 1, 0, 1, 0);
        Check.due("word", 0, x.word(1, 0));
        Code.runToEnd(x, Code.set(1, 6), Code.call(Code.OPEN, 3), Code.call(Code.OPEN, 4), Code.call(Code.OPEN, 5),
            Code.call(Code.OPEN, 6), Code.call(Code.OPEN, 1));
        Check.due("FREE files", 0, x.total(3));
        Code.boot(x, Code.call(Code.OPEN, 7, 7), Code.call(Code.UNLINK, 7), Code.call(Code.OPEN, 7, 7),
            Code.call(Code.CLOSE, 0), Code.call(Code.OPEN, 7, 7), Code.go(13));
        Check.due("run", 8, x.run(8));
        Check.due("no FREE file", -1, x.process(1, 10));
        Check.due("no name", -1, x.name(7));
        Check.due("open files", 1, x.total(8));
        Check.due("run", 5, x.run(5));
        Check.due("now there is one", 0, x.process(1, 10));
        Check.due("name", 1, x.name(7));
    }

    /** Two processes have 6 and 5 open files: there is room for one, but not for the two ends of a pipe. */
    private static void twelveOpenFiles() {
        UnixDesk x = new UnixDesk();
        int[] name = Code.set(0, 0);
        int[] open = Code.call(Code.OPEN);
        Code.program(x, 1, Code.set(1, 7), name, open, name, open, name, open, name, open, name, open, name, open,
            Code.call(Code.SLEEP, 1000));
        Code.program(x, 2, Code.set(1, 7), name, open, name, open, name, open, name, open, name, open,
            Code.call(Code.SLEEP, 1000));
        Code.boot(x, Code.call(Code.FORK), Code.zero(0, 11), Code.call(Code.FORK), Code.zero(0, 13),
            Code.call(Code.SLEEP, 100), Code.set(1, 44), Code.call(Code.PIPE), Code.go(15), Code.go(9), Code.go(10),
            Code.call(Code.EXEC, 1), Code.call(Code.EXEC, 2), Code.call(Code.OPEN, 0, 3), Code.call(Code.OPEN, 0, 3),
            Code.go(21));
        int steps = 0;
        while (x.process(1, 3) != 8 && steps < 100) {
            steps += x.run(1);
        }
        Check.due("eleven open files", 11, x.total(8));
        Check.due("no room for a pipe", -1, x.process(1, 10));
        Check.due("R1 stays", 44, x.process(1, 11));
        Check.due("no pipe", 0, x.total(4));
        Check.due("run", 4, x.run(4));
        Check.due("room for one", 0, x.process(1, 10));
        Check.due("twelve", 12, x.total(8));
        file("all of one file", x, 0, 0, 1, 12);
        Check.due("run", 3, x.run(3));
        Check.due("no room for another one", -1, x.process(1, 10));
        Check.due("twelve", 12, x.total(8));
    }

    public static void main(String[] args) {
        questions();
        zombieHasNoDescriptors();
        modes();
        uses();
        places();
        readsOn();
        seeks();
        fullFile();
        blocksBySize();
        blocksRunOut();
        noBlockNeeded();
        behindTheSize();
        sharedOpenFile();
        leastDescriptors();
        sixDescriptors();
        links();
        badLinks();
        leastFile();
        twelveOpenFiles();
        Check.finish();
    }
}
