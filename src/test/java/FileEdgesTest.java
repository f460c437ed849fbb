/** The edges of names, modes, files, places and blocks: OPEN, READ, WRITE, SEEK, LINK and UNLINK. */
public final class FileEdgesTest {
    private static final int MIN = Edge.MIN, MAX = Edge.MAX, BAD = Edge.BAD;
    private static final int[] NO_NAME = {-1, 8, MIN, MAX};

    /** A program that makes a file of so many words, 7 and then ones, of a name. It has FILLER instructions. */
    private static final int FILLER = 10;

    private static Story fill(Story story, int before, int name, int words) {
        return story.again(before, Code.set(3, words), Code.call(Code.OPEN, name, 7), Code.set(0, 0), Code.call(Code.WRITE),
            Code.set(1, 1), Code.sub(3, 1), Code.zero(3, FILLER), Code.go(4)).run(200, 6 * words + 4);
    }

    /** An object on which name 0 is a file of so many words, 7 and then ones, and no process is there. */
    private static Story ofSize(int words) {
        if (words > 0) return fill(Story.begin(), 0, 0, words);
        Object[] make = {Code.set(0, 0), Code.set(1, 6), Code.call(Code.OPEN)};
        Object[] rest = new Object[FILLER - make.length];
        java.util.Arrays.fill(rest, Code.set(0, 0));
        return Story.boot(Code.join(make), Code.join(rest)).run(200, FILLER + 1);
    }

    private static Look opened(Look look, int d, int file) {
        return look.gave(1, d).holds(1, d, 1, file, 0, 1).more(Look.total(8), 1).more(Look.file(file, 2), 1);
    }

    private static Look made(Look look, int name, int file) {
        look = look.but(Look.name(name), file).but(Look.file(file, 0), 0).but(Look.file(file, 1), 1);
        return look.but(Look.file(file, 2), 0).more(Look.total(3), -1).more(Look.total(7), 1);
    }

    /** A word that comes to the place behind the last one of a file. */
    private static Look longer(Look look, int file, int size, int word) {
        look = look.but(Look.word(file, size), word).but(Look.file(file, 0), size + 1).more(Look.total(7), 1);
        return size % 4 == 0 ? look.more(Look.total(2), -1) : look;
    }

    private static Look emptied(Look look, int file) {
        int size = look.answer(Look.file(file, 0));
        for (int k = 0; k < 16; k++) look = look.but(Look.word(file, k), 0);
        return look.but(Look.file(file, 0), 0).more(Look.total(2), (size + 3) / 4).more(Look.total(7), 1);
    }

    private static void names() {
        Check.sentence("11 OPEN name R0 (0..7), mode R1");
        for (int name : NO_NAME) {
            Edge.refused("OPEN " + name, Edge.atCall(Code.OPEN, name, 7), 1);
        }
        for (int name = 0; name <= 7; name++) {
            Story before = Edge.atCall(Code.OPEN, name, 7);
            opened(made(Look.at(before), name, 0), 0, 0).due("OPEN " + name, before.run(1));
        }
    }

    private static void modes() {
        for (int mode : new int[] {-1, 0, 1, 2, 3, 4, 5, 6, 7, 8, 9, 10, 11, 12, 13, 14, 15, 16, 17, 31, MIN, MIN + 3, MAX}) {
            boolean outside = mode < 1 || mode > 15;
            boolean use = (mode & 3) != 0;
            boolean good = !outside && use && ((mode & 8) == 0 || (mode & 2) != 0);
            Check.sentence(outside ? "mode R1 (1..15: 1 to read, 2 to write" : !use ? "one of these at least"
                : good ? "gives the least free descriptor, an open file at PLACE 0." : "8 empty it, which fails without 2");
            Story there = ofSize(2).again(FILLER, Code.set(0, 0), Code.set(1, mode), Code.call(Code.OPEN)).run(2);
            if (good) {
                Look due = Look.at(there);
                if ((mode & 8) != 0) due = emptied(due, 0);
                opened(due, 0, 0).due("OPEN with mode " + mode, there.run(1));
            } else {
                Edge.refused("OPEN with mode " + mode, there, 1);
            }
            Story none = Edge.atCall(Code.OPEN, 5, mode);
            if (good && (mode & 4) != 0) {
                Check.sentence("With 4 a name that is none gets a new file of size 0.");
                opened(made(Look.at(none), 5, 0), 0, 0).due("OPEN of none with mode " + mode, none.run(1));
            } else {
                Edge.refused("OPEN of none with mode " + mode, none, 1);
            }
        }
        Check.sentence("OPEN with 8 of a name that has a file is one of the CHANGES also if the file has size 0 already.");
        for (int mode : new int[] {10, 11, 14, 15}) {
            Story empty = ofSize(0).again(FILLER, Code.set(0, 0), Code.set(1, mode), Code.call(Code.OPEN)).run(2);
            opened(emptied(Look.at(empty), 0), 0, 0).due("OPEN with mode " + mode, empty.run(1));
        }
    }

    private static void noDescriptor() {
        Check.sentence("gives the least free descriptor, an open file at PLACE 0.");
        int[][] open = Code.call(Code.OPEN, 0, 3);
        int[][] six = Code.join(open, open, open, open, open, open);
        for (int[] o : new int[][] {{0, 1}, {0, 15}, {0, 10}, {1, 7}, {1, 14}}) {
            Story full = ofSize(2).again(FILLER, six, Code.call(Code.OPEN, o[0], o[1])).run(20);
            Check.due("open files", 6, full.told().file(0, 2));
            Edge.refused("OPEN " + o[0] + " with mode " + o[1], full, 1);
        }
        for (int d = 0; d <= 5; d++) {
            Story one = ofSize(2).again(FILLER, six, Code.call(Code.CLOSE, d), Code.call(Code.OPEN, 0, 3)).run(22);
            opened(Look.at(one), d, 0).due("OPEN with " + d + " free", one.run(1));
        }
    }

    /** Eight files, of which file 7 is open and had name 7. */
    private static Story eightFiles(Object... parts) {
        int[][] five = {Code.set(1, 6)};
        for (int name = 0; name <= 4; name++) five = Code.join(five, Code.set(0, name), Code.call(Code.OPEN));
        int[][] three = {Code.set(1, 6)};
        for (int name = 5; name <= 7; name++) three = Code.join(three, Code.set(0, name), Code.call(Code.OPEN));
        Story story = Story.begin().program(0, (Object) five).boot(0).run(200, 12);
        story = story.again(11, three, Code.call(Code.UNLINK, 7), Code.join(parts)).run(9);
        Check.due("FREE files", 0, story.told().total(3));
        Check.due("names of file 7", 0, story.told().file(7, 1));
        return story;
    }

    private static void noFile() {
        Check.sentence("FILES 0..7, of 0 to 16 words, are FREE without a name or open file; a new one is the least FREE one.");
        Story full = eightFiles(Code.set(0, 7), Code.call(Code.OPEN)).run(1);
        Edge.refused("OPEN with no FREE file", full, 1);
        Story other = eightFiles(Code.set(0, 3), Code.set(1, 15), Code.call(Code.OPEN)).run(2);
        opened(emptied(Look.at(other), 3), 3, 3).due("OPEN of a name that has a file", other.run(1));
        Story closed = eightFiles(Code.set(0, 2), Code.call(Code.CLOSE), Code.set(0, 7), Code.call(Code.OPEN)).run(1);
        Look due = Look.at(closed).gave(1, 0).but(Look.total(8), 2).but(Look.total(3), 1);
        for (int what = 0; what <= 2; what++) due = due.but(Look.file(7, what), BAD).but(Look.descriptor(1, 2, what + 1), BAD);
        due.but(Look.descriptor(1, 2, 0), 0).due("CLOSE of the last open file of one without a name", closed.run(1));
        Story again = closed.run(2);
        opened(made(Look.at(again), 7, 7), 2, 7).due("OPEN then", again.run(1));
        // Files 2 and 5 are FREE, and each is taken in its turn.
        Story two = eightFiles(Code.set(0, 5), Code.call(Code.CLOSE), Code.set(0, 0), Code.call(Code.CLOSE),
            Code.call(Code.UNLINK, 5), Code.call(Code.UNLINK, 2), Code.call(Code.OPEN, 7, 6)).run(8);
        Check.due("FREE files", 2, two.told().total(3));
        two = two.run(2);
        opened(made(Look.at(two), 7, 2), 0, 2).due("the least FREE one", two.run(1));
    }

    /** Name 0 has so many words; it is open at a place, and a call with R1 is next. */
    private static Story atPlace(int size, int place, int call, int r1) {
        return ofSize(size).again(FILLER, Code.call(Code.OPEN, 0, 3), Code.call(Code.SEEK, 0, place),
            Code.call(call, 0, r1), Code.go(9)).run(8);
    }

    private static void reads() {
        Check.sentence("From a file: that at its PLACE, which is one more then; the end is its size.");
        for (int size : new int[] {0, 1, 2, 15, 16}) {
            Edge.gives("READ at the size " + size, atPlace(size, size, Code.READ, 44), 1, 0);
            for (int place : new int[] {0, size - 1}) {
                if (size == 0) continue;
                Story before = atPlace(size, place, Code.READ, 44);
                Look due = Look.at(before).gave(1, 1).but(Look.process(1, 11), place == 0 ? 7 : 1);
                due.but(Look.descriptor(1, 0, 2), place + 1).due("READ at " + place + " of " + size, before.run(1));
            }
        }
    }

    private static void writes() {
        Check.sentence("To a file: at its PLACE, or its size if that is less (PLACE is behind that word then)");
        for (int size = 0; size <= 15; size++) {
            Story before = atPlace(size, size, Code.WRITE, MIN + size);
            Look due = longer(Look.at(before).gave(1, 1), 0, size, MIN + size).but(Look.descriptor(1, 0, 2), size + 1);
            due.due("WRITE at the size " + size, before.run(1));
        }
        for (int size : new int[] {1, 4, 5, 16}) {
            for (int place : new int[] {0, size - 1}) {
                Story before = atPlace(size, place, Code.WRITE, MAX);
                Look due = Look.at(before).gave(1, 1).but(Look.word(0, place), MAX).more(Look.total(7), 1);
                due.but(Look.descriptor(1, 0, 2), place + 1).due("WRITE at " + place + " of " + size, before.run(1));
            }
        }
        Check.sentence("0 if that is 16, or a block is needed and none is FREE.");
        Edge.gives("WRITE at 16", atPlace(16, 16, Code.WRITE, 5), 1, 0);
    }

    /** An open file whose PLACE is behind the size, as another one emptied the file and wrote so many words. */
    private static Story behindTheSize(int place, int words, int call, int r1) {
        int[][] write = {};
        for (int k = 0; k < words; k++) write = Code.join(write, Code.set(0, 1), Code.call(Code.WRITE));
        return ofSize(16).again(FILLER, Code.call(Code.OPEN, 0, 3), Code.call(Code.SEEK, 0, place), Code.call(Code.OPEN, 0, 10),
            write, Code.call(call, 0, r1)).run(11 + 2 * words);
    }

    private static void behind() {
        Check.sentence("or its size if that is less");
        for (int place : new int[] {3, 16}) {
            for (int words = 0; words <= 2; words++) {
                Story write = behindTheSize(place, words, Code.WRITE, 5);
                Check.due("PLACE", place, write.told().descriptor(1, 0, 2));
                Look due = longer(Look.at(write).gave(1, 1), 0, words, 5).but(Look.descriptor(1, 0, 2), words + 1);
                due.due("WRITE from " + place + " at " + words, write.run(1));
                Edge.gives("READ from " + place, behindTheSize(place, words, Code.READ, 5), 1, 0);
                Edge.refused("SEEK behind the size", behindTheSize(place, words, Code.SEEK, words + 1), 1);
                Story seek = behindTheSize(place, words, Code.SEEK, words);
                Look.at(seek).gave(1, 0).but(Look.descriptor(1, 0, 2), words).due("SEEK to the size", seek.run(1));
            }
        }
    }

    /** Name 0 has so many words, open at a place, and the other files have so many of the 16 blocks that some are FREE. */
    private static Story blocks(int size, int free, int place) {
        Story story = ofSize(size);
        int left = 16 - (size + 3) / 4 - free;
        for (int name = 1; left > 0; name++) {
            int taken = Math.min(left, 4);
            story = fill(story, FILLER, name, 4 * taken);
            left -= taken;
        }
        Check.due("FREE blocks", free, story.told().total(2));
        return story.again(FILLER, Code.call(Code.OPEN, 0, 3), Code.call(Code.SEEK, 0, place), Code.call(Code.WRITE, 0, 5))
            .run(8);
    }

    private static void noBlock() {
        Check.sentence("or a block is needed and none is FREE.");
        for (int size = 0; size <= 15; size++) {
            Story none = blocks(size, 0, size);
            if (size % 4 == 0) {
                Edge.gives("WRITE at the size " + size, none, 1, 0);
                Story one = blocks(size, 1, size);
                Look due = longer(Look.at(one).gave(1, 1), 0, size, 5).but(Look.descriptor(1, 0, 2), size + 1);
                due.but(Look.total(2), 0).due("WRITE at the size " + size + ", one FREE", one.run(1));
            } else {
                Look due = longer(Look.at(none).gave(1, 1), 0, size, 5).but(Look.descriptor(1, 0, 2), size + 1);
                due.due("WRITE at the size " + size, none.run(1));
            }
            if (size > 0) {
                Story over = blocks(size, 0, size - 1);
                Look due = Look.at(over).gave(1, 1).but(Look.word(0, size - 1), 5).more(Look.total(7), 1);
                due.but(Look.descriptor(1, 0, 2), size).due("WRITE over the last word of " + size, over.run(1));
            }
        }
        Check.sentence("Each 4 words (begun) of a file need one of 16 BLOCKS.");
        for (int size = 0; size <= 16; size++) {
            Check.due("FREE blocks with " + size + " words", 16 - (size + 3) / 4, ofSize(size).told().total(2));
        }
    }

    private static void seeks() {
        Check.sentence("17 SEEK: PLACE of descriptor R0, a file, is R1 (0.. its size): gives 0.");
        for (int size : new int[] {0, 1, 15, 16}) {
            for (int place : new int[] {-1, size + 1, MIN, MAX}) {
                Edge.refused("SEEK to " + place + " of " + size, atPlace(size, 0, Code.SEEK, place), 1);
            }
            for (int place : new int[] {0, size}) {
                Story before = atPlace(size, size - place, Code.SEEK, place);
                Look due = Look.at(before).gave(1, 0).but(Look.descriptor(1, 0, 2), place);
                due.due("SEEK to " + place + " of " + size, before.run(1));
            }
        }
        // One that only reads and one that only writes.
        for (int mode = 1; mode <= 2; mode++) {
            Story before = ofSize(2).again(FILLER, Code.call(Code.OPEN, 0, mode), Code.call(Code.SEEK, 0, 2)).run(5);
            Look.at(before).gave(1, 0).but(Look.descriptor(1, 0, 2), 2).due("SEEK with mode " + mode, before.run(1));
        }
    }

    private static void links() {
        Check.sentence("12 LINK: name R1, that is none, is one more of the file of name R0: gives 0.");
        int[][] bad = {{-1, 2}, {8, 2}, {MIN, 2}, {MAX, 2}, {1, 2}, {0, -1}, {0, 8}, {0, MIN}, {0, MAX}, {0, 0}, {0, 3}, {3, 0},
            {3, 3}, {1, 1}, {1, 0}, {-1, 8}};
        for (int[] b : bad) {
            // Names 0 and 3 have files, the others are none.
            Story before = Story.boot(Code.call(Code.OPEN, 0, 7), Code.call(Code.OPEN, 3, 7), Code.call(Code.LINK, b[0], b[1]))
                .run(8);
            Edge.refused("LINK " + b[0] + ", " + b[1], before, 1);
        }
        for (int[] good : new int[][] {{0, 7}, {7, 0}, {3, 4}}) {
            Story before = Story.boot(Code.call(Code.OPEN, good[0], 7), Code.call(Code.LINK, good[0], good[1])).run(5);
            Look due = Look.at(before).gave(1, 0).but(Look.name(good[1]), 0).but(Look.file(0, 1), 2).more(Look.total(7), 1);
            due.due("LINK " + good[0] + ", " + good[1], before.run(1));
        }
        // All eight names are of one file, each made from the one before.
        Story all = Story.boot(Code.call(Code.OPEN, 0, 7), Code.set(3, 1), Code.set(1, 0), Code.move(0, 1), Code.add(1, 3),
            Code.call(Code.LINK), Code.go(5));
        Story last = all.run(5 + 7 * 5);
        for (int name = 0; name <= 7; name++) Check.due("name " + name, 0, last.told().name(name));
        Check.due("names", 8, last.told().file(0, 1));
        Edge.refused("LINK of 7 to 8", last.run(3), 1);
    }

    private static void unlinks() {
        Check.sentence("13 UNLINK name R0: it is none: gives 0.");
        for (int name : new int[] {-1, 8, MIN, MAX, 1, 7}) {
            Story before = Story.boot(Code.call(Code.OPEN, 0, 7), Code.call(Code.UNLINK, name)).run(4);
            Edge.refused("UNLINK " + name, before, 1);
        }
        for (int name : new int[] {0, 7}) {
            Story open = Story.boot(Code.call(Code.OPEN, name, 7), Code.call(Code.UNLINK, name), Code.call(Code.UNLINK, name));
            Look due = Look.at(open.run(4)).gave(1, 0).but(Look.name(name), -1).but(Look.file(0, 1), 0).more(Look.total(7), 1);
            due.due("UNLINK " + name, open.run(5));
            Edge.refused("UNLINK twice", open.run(6), 1);
        }
        Check.sentence("are FREE without a name or open file");
        Story closed = ofSize(5).again(FILLER, Code.call(Code.LINK, 0, 6), Code.call(Code.UNLINK, 0), Code.call(Code.UNLINK, 6))
            .run(4);
        Look due = Look.at(closed).gave(1, 0).but(Look.name(0), -1).but(Look.file(0, 1), 1).more(Look.total(7), 1);
        due.due("one of two names", closed.run(1));
        Story last = closed.run(2);
        due = Look.at(last).gave(1, 0).but(Look.name(6), -1).more(Look.total(7), 1).but(Look.total(3), 8).but(Look.total(2), 16);
        for (int what = 0; what <= 2; what++) due = due.but(Look.file(0, what), BAD);
        for (int k = 0; k < 5; k++) due = due.but(Look.word(0, k), 0);
        due.due("the last one", last.run(1));
    }

    public static void main(String[] args) {
        names();
        modes();
        noDescriptor();
        noFile();
        reads();
        writes();
        behind();
        noBlock();
        seeks();
        links();
        unlinks();
        Check.finish();
    }
}
