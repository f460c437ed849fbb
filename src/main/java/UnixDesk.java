/** A small Unix of processes, pages, pipes and named files; ../shared/DOC.md has its promises. */
public final class UnixDesk {
    public static final int BAD = -1, FULL = -2;

    private static final int NONE = -1;

    private static final int PROGRAMS = 6;
    private static final int CODE_LIMIT = 24;
    private static final int CODE_WIDTH = 3;
    private static final int CODE_SIZE = PROGRAMS * CODE_LIMIT * CODE_WIDTH;

    private static final int OP_SET = 0;
    private static final int OP_ADD = 1;
    private static final int OP_SUB = 2;
    private static final int OP_LESS = 3;
    private static final int OP_LOAD = 4;
    private static final int OP_STORE = 5;
    private static final int OP_GO = 6;
    private static final int OP_ZERO = 7;
    private static final int OP_CALL = 8;

    private static final int CALL_EXIT = 0;
    private static final int CALL_FORK = 1;
    private static final int CALL_WAIT = 2;
    private static final int CALL_KILL = 3;
    private static final int CALL_GROW = 4;
    private static final int CALL_EXEC = 5;
    private static final int CALL_PIPE = 6;
    private static final int CALL_READ = 7;
    private static final int CALL_WRITE = 8;
    private static final int CALL_CLOSE = 9;
    private static final int CALL_DUP = 10;
    private static final int CALL_OPEN = 11;
    private static final int CALL_LINK = 12;
    private static final int CALL_UNLINK = 13;
    private static final int CALL_SLEEP = 14;
    private static final int CALL_PID = 15;
    private static final int CALL_SAY = 16;
    private static final int CALL_SEEK = 17;
    private static final int CALL_COMMIT = 18;
    private static final int CALLS = 19;

    private static final int FAILED = -1;
    private static final int KILLED = -1;

    private static final int SLOTS = 8;
    private static final int FIRST_PID = 1;
    private static final int REGISTERS = 4;
    private static final int ALL_REGISTERS = SLOTS * REGISTERS;
    private static final int DESCRIPTORS = 6;
    private static final int ALL_DESCRIPTORS = SLOTS * DESCRIPTORS;
    private static final int READY = 1;
    private static final int BLOCKED = 2;
    private static final int ZOMBIE = 3;

    private static final int PAGES = 8;
    private static final int ALL_PAGES = SLOTS * PAGES;
    private static final int PAGE_WORDS = 4;
    private static final int GROW_LIMIT = 7;
    private static final int FRAMES = 20;
    private static final int ALL_FRAME_WORDS = FRAMES * PAGE_WORDS;

    private static final int OPENS = 12;
    private static final int PLAIN_FILE = 1;
    private static final int READ_END = 2;
    private static final int WRITE_END = 3;
    private static final int TO_READ = 1;
    private static final int TO_WRITE = 2;
    private static final int TO_USE = TO_READ | TO_WRITE;
    private static final int TO_MAKE = 4;
    private static final int TO_EMPTY = 8;
    private static final int MODE_LIMIT = 15;

    private static final int PIPES = 4;
    private static final int PIPE_WORDS = 4;
    private static final int ALL_PIPE_WORDS = PIPES * PIPE_WORDS;

    private static final int NAMES = 8;
    private static final int FILES = 8;
    private static final int FILE_WORDS = 16;
    private static final int ALL_FILE_WORDS = FILES * FILE_WORDS;
    private static final int BLOCKS = 16;
    private static final int BLOCK_WORDS = 4;
    private static final int CHANGE_LIMIT = 30;

    private static final int SAID_KEPT = 16;
    private static final int SLICE_LIMIT = 5;
    private static final int SLEEP_LIMIT = 1000;
    private static final int RUN_LIMIT = 200;
    private static final int TIME_LIMIT = 1000000000;

    private final int[] code = new int[CODE_SIZE];
    private final int[] codeLengths = new int[PROGRAMS];

    // A slot is free while its pid is 0.
    private final int[] pids = new int[SLOTS];
    private final int[] parents = new int[SLOTS];
    private final int[] programs = new int[SLOTS];
    private final int[] places = new int[SLOTS];
    // BLOCKED here says that the latest step blocked; isReady says whether it still does.
    private final int[] states = new int[SLOTS];
    private final int[] statuses = new int[SLOTS];
    private final int[] stepCounts = new int[SLOTS];
    private final int[] copyCounts = new int[SLOTS];
    // 0 while the process is in no SLEEP.
    private final int[] wakeTimes = new int[SLOTS];
    private final int[] registers = new int[ALL_REGISTERS];
    private final int[] pageCounts = new int[SLOTS];
    private final int[] pageFrames = new int[ALL_PAGES];
    private final int[] held = new int[ALL_DESCRIPTORS];

    // A frame is FREE while no page has it, an open file while no descriptor has it.
    private final int[] frameUsers = new int[FRAMES];
    private final int[] frameWords = new int[ALL_FRAME_WORDS];
    private final int[] openHolders = new int[OPENS];
    private final int[] openKinds = new int[OPENS];
    private final int[] openTargets = new int[OPENS];
    private final int[] openPlaces = new int[OPENS];
    private final int[] openModes = new int[OPENS];

    private final int[] pipeFirsts = new int[PIPES];
    private final int[] pipeCounts = new int[PIPES];
    private final int[] pipeWords = new int[ALL_PIPE_WORDS];

    // What a FREE file or pipe has here is left over and never looked at.
    private final int[] nameFiles = new int[NAMES];
    private final int[] fileSizes = new int[FILES];
    private final int[] fileWords = new int[ALL_FILE_WORDS];
    private final int[] safeNames = new int[NAMES];
    private final int[] safeSizes = new int[FILES];
    private final int[] safeWords = new int[ALL_FILE_WORDS];
    private int changes;

    private final int[] saidInts = new int[SAID_KEPT];
    private int saidCount;

    private int time;
    private int lastSlot;
    private int sliceSteps;
    private int latestPid;
    private int greatestPid;

    public UnixDesk() {
        for (int k = 0; k < NAMES; k++) {
            nameFiles[k] = NONE;
            safeNames[k] = NONE;
        }
    }

    public int add(int program, int op, int a, int b) {
        if (!isProgram(program) || !isInstruction(op, a, b) || countProcesses() > 0) {
            return BAD;
        }
        int length = codeLengths[program];
        if (length >= CODE_LIMIT) {
            return FULL;
        }
        int at = codeIndex(program, length);
        code[at] = op;
        code[at + 1] = a;
        code[at + 2] = b;
        codeLengths[program] = length + 1;
        return length + 1;
    }

    public int clear(int program) {
        if (!isProgram(program) || countProcesses() > 0) {
            return BAD;
        }
        int length = codeLengths[program];
        codeLengths[program] = 0;
        return length;
    }

    public boolean boot(int program) {
        if (!isProgram(program) || countProcesses() > 0) {
            return false;
        }
        greatestPid = FIRST_PID;
        latestPid = 0;
        lastSlot = SLOTS - 1;
        beginProcess(0, FIRST_PID, 0);
        for (int d = 0; d < DESCRIPTORS; d++) {
            held[d] = NONE;
        }
        startProgram(0, program, 0);
        return true;
    }

    public int run(int n) {
        if (n < 1 || n > RUN_LIMIT || time > TIME_LIMIT) {
            return BAD;
        }
        for (int done = 0; done < n; done++) {
            int slot = chooseSlot();
            if (slot == NONE && skipToWake()) {
                slot = chooseSlot();
            }
            if (slot == NONE) {
                return done;
            }
            step(slot);
        }
        return n;
    }

    public int crash() {
        int ended = countProcesses();
        for (int slot = 0; slot < SLOTS; slot++) {
            pids[slot] = 0;
        }
        for (int open = 0; open < OPENS; open++) {
            openHolders[open] = 0;
        }
        for (int frame = 0; frame < FRAMES; frame++) {
            frameUsers[frame] = 0;
        }
        copyFiles(safeNames, safeSizes, safeWords, nameFiles, fileSizes, fileWords);
        changes = 0;
        return ended;
    }

    public int process(int pid, int what) {
        int slot = findSlot(pid);
        if (slot == NONE) {
            return BAD;
        }
        if (what >= 10 && what < 10 + REGISTERS) {
            return registers[slot * REGISTERS + what - 10];
        }
        switch (what) {
            case 0: return stateOf(slot);
            case 1: return parents[slot];
            case 2: return programs[slot];
            case 3: return places[slot];
            case 4: return pageCounts[slot];
            case 5: return statuses[slot];
            case 6: return slot;
            case 7: return stepCounts[slot];
            case 8: return copyCounts[slot];
            default: return BAD;
        }
    }

    public int memory(int pid, int address) {
        int slot = findSlot(pid);
        if (slot == NONE) {
            return 0;
        }
        int index = wordIndex(slot, address);
        return index == NONE ? 0 : frameWords[index];
    }

    public int sharing(int pid, int page) {
        int slot = findSlot(pid);
        if (slot == NONE || page < 0 || page >= pageCounts[slot]) {
            return 0;
        }
        return frameUsers[pageFrames[slot * PAGES + page]];
    }

    public int descriptor(int pid, int d, int what) {
        int slot = findSlot(pid);
        if (slot == NONE || states[slot] == ZOMBIE || d < 0 || d >= DESCRIPTORS) {
            return BAD;
        }
        int open = held[slot * DESCRIPTORS + d];
        if (open == NONE) {
            return what == 0 ? 0 : BAD;
        }
        switch (what) {
            case 0: return openKinds[open];
            case 1: return openKinds[open] == PLAIN_FILE ? openTargets[open] : NONE;
            case 2: return openPlaces[open];
            case 3: return openHolders[open];
            default: return BAD;
        }
    }

    public int name(int k) {
        return isName(k) ? nameFiles[k] : NONE;
    }

    public int file(int i, int what) {
        if (i < 0 || i >= FILES || isFreeFile(i)) {
            return BAD;
        }
        switch (what) {
            case 0: return fileSizes[i];
            case 1: return countNames(i);
            case 2: return countOpens(PLAIN_FILE, i);
            default: return BAD;
        }
    }

    public int word(int i, int k) {
        if (i < 0 || i >= FILES || isFreeFile(i) || k < 0 || k >= fileSizes[i]) {
            return 0;
        }
        return fileWords[i * FILE_WORDS + k];
    }

    public int total(int what) {
        switch (what) {
            case 0: return countProcesses();
            case 1: return countFreeFrames();
            case 2: return countFreeBlocks();
            case 3: return countFreeFiles();
            case 4: return countPipes();
            case 5: return time;
            case 6: return saidCount;
            case 7: return changes;
            case 8: return countOpenFiles();
            case 9: return latestPid;
            case 10: return greatestPid;
            default: return BAD;
        }
    }

    public int said(int k) {
        if (k < 0 || k >= SAID_KEPT || k >= saidCount) {
            return 0;
        }
        return saidInts[(saidCount - 1 - k) % SAID_KEPT];
    }

    // Programs

    private boolean isProgram(int program) {
        return program >= 0 && program < PROGRAMS;
    }

    private boolean isRegister(int register) {
        return register >= 0 && register < REGISTERS;
    }

    private boolean isInstruction(int op, int a, int b) {
        switch (op) {
            case OP_SET:
                return isRegister(a);
            case OP_ADD:
            case OP_SUB:
            case OP_LESS:
            case OP_LOAD:
            case OP_STORE:
                return isRegister(a) && isRegister(b);
            case OP_GO:
                return b >= 0 && b < CODE_LIMIT;
            case OP_ZERO:
                return isRegister(a) && b >= 0 && b < CODE_LIMIT;
            case OP_CALL:
                return b >= 0 && b < CALLS;
            default:
                return false;
        }
    }

    private int codeIndex(int program, int at) {
        return (program * CODE_LIMIT + at) * CODE_WIDTH;
    }

    // Which process is next

    private int chooseSlot() {
        if (sliceSteps < SLICE_LIMIT && isReady(lastSlot)) {
            return lastSlot;
        }
        for (int further = 1; further <= SLOTS; further++) {
            int slot = (lastSlot + further) % SLOTS;
            if (isReady(slot)) {
                lastSlot = slot;
                sliceSteps = 0;
                return slot;
            }
        }
        return NONE;
    }

    private boolean isReady(int slot) {
        if (pids[slot] == 0 || states[slot] == ZOMBIE) {
            return false;
        }
        if (states[slot] == READY) {
            return true;
        }
        int at = codeIndex(programs[slot], places[slot]);
        return !wouldBlock(slot, code[at + 2]);
    }

    private int stateOf(int slot) {
        if (states[slot] == ZOMBIE) {
            return ZOMBIE;
        }
        return isReady(slot) ? READY : BLOCKED;
    }

    private boolean skipToWake() {
        int least = NONE;
        for (int slot = 0; slot < SLOTS; slot++) {
            boolean sleeps = pids[slot] != 0 && states[slot] == BLOCKED && wakeTimes[slot] > time;
            if (sleeps && (least == NONE || wakeTimes[slot] < least)) {
                least = wakeTimes[slot];
            }
        }
        if (least == NONE) {
            return false;
        }
        time = least;
        return true;
    }

    // One step

    private void step(int slot) {
        int program = programs[slot];
        int place = places[slot];
        time++;
        sliceSteps++;
        stepCounts[slot]++;
        latestPid = pids[slot];
        if (place >= codeLengths[program]) {
            endProcess(slot, registers[slot * REGISTERS]);
            return;
        }
        // Set before the instruction is done: a process that it ends is behind it.
        places[slot] = place + 1;
        states[slot] = READY;
        int at = codeIndex(program, place);
        if (code[at] != OP_CALL) {
            compute(slot, code[at], code[at + 1], code[at + 2]);
        } else if (!blocks(slot, code[at + 2])) {
            doCall(slot, code[at + 2]);
        }
    }

    private void compute(int slot, int op, int a, int b) {
        int base = slot * REGISTERS;
        switch (op) {
            case OP_SET:
                registers[base + a] = b;
                break;
            case OP_ADD:
                registers[base + a] += registers[base + b];
                break;
            case OP_SUB:
                registers[base + a] -= registers[base + b];
                break;
            case OP_LESS:
                registers[base + a] = registers[base + a] < registers[base + b] ? 1 : 0;
                break;
            case OP_LOAD:
                loadWord(slot, base + a, registers[base + b]);
                break;
            case OP_STORE:
                storeWord(slot, registers[base + a], registers[base + b]);
                break;
            case OP_GO:
                places[slot] = b;
                break;
            case OP_ZERO:
                if (registers[base + a] == 0) {
                    places[slot] = b;
                }
                break;
            default:
                break;
        }
    }

    private boolean blocks(int slot, int call) {
        if (call == CALL_SLEEP) {
            fallAsleep(slot);
        }
        if (!wouldBlock(slot, call)) {
            return false;
        }
        states[slot] = BLOCKED;
        places[slot]--;
        return true;
    }

    private boolean wouldBlock(int slot, int call) {
        switch (call) {
            case CALL_WAIT: return hasChild(slot) && leastZombie(slot) == NONE;
            case CALL_READ: return readBlocks(slot);
            case CALL_WRITE: return writeBlocks(slot);
            case CALL_SLEEP: return wakeTimes[slot] > time;
            default: return false;
        }
    }

    private void doCall(int slot, int call) {
        int base = slot * REGISTERS;
        int r0 = registers[base];
        int r1 = registers[base + 1];
        // A call that ends its process gives nothing, so R0 stays.
        int given = r0;
        switch (call) {
            case CALL_EXIT: endProcess(slot, r0); break;
            case CALL_FORK: given = forkProcess(slot); break;
            case CALL_WAIT: given = reapChild(slot); break;
            case CALL_KILL: given = killProcess(r0); break;
            case CALL_GROW: given = growPages(slot, r0); break;
            case CALL_EXEC: given = execProgram(slot, r0); break;
            case CALL_PIPE: given = makePipe(slot); break;
            case CALL_READ: given = readWord(slot); break;
            case CALL_WRITE:
                if (hasNoReader(slot)) {
                    endProcess(slot, KILLED);
                } else {
                    given = writeWord(slot, r1);
                }
                break;
            case CALL_CLOSE: given = closeDescriptor(slot, r0); break;
            case CALL_DUP: given = copyDescriptor(slot); break;
            case CALL_OPEN: given = openName(slot, r0, r1); break;
            case CALL_LINK: given = linkName(r0, r1); break;
            case CALL_UNLINK: given = unlinkName(r0); break;
            case CALL_SLEEP: given = wakeUp(slot, r0); break;
            case CALL_PID: given = pids[slot]; break;
            case CALL_SAY: keepSaid(r0); break;
            case CALL_SEEK: given = seekPlace(slot, r1); break;
            case CALL_COMMIT: commitFiles(); given = 0; break;
            default: break;
        }
        registers[base] = given;
        if (changes >= CHANGE_LIMIT) {
            commitFiles();
        }
    }

    // Processes

    private int countProcesses() {
        int count = 0;
        for (int slot = 0; slot < SLOTS; slot++) {
            if (pids[slot] != 0) {
                count++;
            }
        }
        return count;
    }

    private int findSlot(int pid) {
        if (pid < FIRST_PID) {
            return NONE;
        }
        for (int slot = 0; slot < SLOTS; slot++) {
            if (pids[slot] == pid) {
                return slot;
            }
        }
        return NONE;
    }

    private int freeSlot() {
        for (int slot = 0; slot < SLOTS; slot++) {
            if (pids[slot] == 0) {
                return slot;
            }
        }
        return NONE;
    }

    private void beginProcess(int slot, int pid, int parent) {
        pids[slot] = pid;
        parents[slot] = parent;
        states[slot] = READY;
        statuses[slot] = 0;
        stepCounts[slot] = 0;
        copyCounts[slot] = 0;
        wakeTimes[slot] = 0;
        pageCounts[slot] = 0;
    }

    private void startProgram(int slot, int program, int frame) {
        addPage(slot, frame);
        for (int register = 0; register < REGISTERS; register++) {
            registers[slot * REGISTERS + register] = 0;
        }
        programs[slot] = program;
        places[slot] = 0;
    }

    private void endProcess(int slot, int status) {
        int ended = pids[slot];
        for (int d = 0; d < DESCRIPTORS; d++) {
            letGo(slot, d);
        }
        dropPages(slot);
        int first = findSlot(FIRST_PID);
        boolean orphans = ended == FIRST_PID || first == NONE || states[first] == ZOMBIE;
        int heir = orphans ? 0 : FIRST_PID;
        for (int other = 0; other < SLOTS; other++) {
            if (pids[other] != 0 && parents[other] == ended) {
                parents[other] = heir;
                if (heir == 0 && states[other] == ZOMBIE) {
                    pids[other] = 0;
                }
            }
        }
        states[slot] = ZOMBIE;
        statuses[slot] = status;
        if (parents[slot] == 0) {
            pids[slot] = 0;
        }
    }

    private int forkProcess(int slot) {
        int child = freeSlot();
        if (child == NONE) {
            return FAILED;
        }
        greatestPid++;
        beginProcess(child, greatestPid, pids[slot]);
        programs[child] = programs[slot];
        places[child] = places[slot];
        for (int register = 0; register < REGISTERS; register++) {
            registers[child * REGISTERS + register] = registers[slot * REGISTERS + register];
        }
        registers[child * REGISTERS] = 0;
        sharePages(slot, child);
        for (int d = 0; d < DESCRIPTORS; d++) {
            int open = held[slot * DESCRIPTORS + d];
            held[child * DESCRIPTORS + d] = open;
            if (open != NONE) {
                openHolders[open]++;
            }
        }
        return greatestPid;
    }

    private boolean hasChild(int slot) {
        for (int other = 0; other < SLOTS; other++) {
            if (pids[other] != 0 && parents[other] == pids[slot]) {
                return true;
            }
        }
        return false;
    }

    private int leastZombie(int slot) {
        int least = NONE;
        for (int other = 0; other < SLOTS; other++) {
            boolean waits = pids[other] != 0 && states[other] == ZOMBIE && parents[other] == pids[slot];
            if (waits && (least == NONE || pids[other] < pids[least])) {
                least = other;
            }
        }
        return least;
    }

    private int reapChild(int slot) {
        int child = leastZombie(slot);
        if (child == NONE) {
            return FAILED;
        }
        int pid = pids[child];
        registers[slot * REGISTERS + 1] = statuses[child];
        pids[child] = 0;
        return pid;
    }

    private int killProcess(int pid) {
        int slot = findSlot(pid);
        if (slot == NONE || states[slot] == ZOMBIE) {
            return FAILED;
        }
        endProcess(slot, KILLED);
        return 0;
    }

    private int execProgram(int slot, int program) {
        if (!isProgram(program)) {
            return FAILED;
        }
        dropPages(slot);
        int frame = freeFrame();
        if (frame == NONE) {
            endProcess(slot, KILLED);
            return program;
        }
        startProgram(slot, program, frame);
        return 0;
    }

    private void fallAsleep(int slot) {
        int length = registers[slot * REGISTERS];
        if (wakeTimes[slot] == 0 && length > 0 && length <= SLEEP_LIMIT) {
            wakeTimes[slot] = time + length;
        }
    }

    private int wakeUp(int slot, int length) {
        wakeTimes[slot] = 0;
        return length >= 0 && length <= SLEEP_LIMIT ? 0 : FAILED;
    }

    private void keepSaid(int value) {
        saidInts[saidCount % SAID_KEPT] = value;
        saidCount++;
    }

    // Pages and frames

    private int freeFrame() {
        for (int frame = 0; frame < FRAMES; frame++) {
            if (frameUsers[frame] == 0) {
                return frame;
            }
        }
        return NONE;
    }

    private int countFreeFrames() {
        int count = 0;
        for (int frame = 0; frame < FRAMES; frame++) {
            if (frameUsers[frame] == 0) {
                count++;
            }
        }
        return count;
    }

    private void addPage(int slot, int frame) {
        for (int k = 0; k < PAGE_WORDS; k++) {
            frameWords[frame * PAGE_WORDS + k] = 0;
        }
        frameUsers[frame] = 1;
        pageFrames[slot * PAGES + pageCounts[slot]] = frame;
        pageCounts[slot]++;
    }

    private void dropPages(int slot) {
        for (int page = 0; page < pageCounts[slot]; page++) {
            frameUsers[pageFrames[slot * PAGES + page]]--;
        }
        pageCounts[slot] = 0;
    }

    private void sharePages(int from, int to) {
        for (int page = 0; page < pageCounts[from]; page++) {
            int frame = pageFrames[from * PAGES + page];
            pageFrames[to * PAGES + page] = frame;
            frameUsers[frame]++;
        }
        pageCounts[to] = pageCounts[from];
    }

    private int growPages(int slot, int further) {
        int before = pageCounts[slot];
        if (further < 0 || further > GROW_LIMIT || before + further > PAGES || countFreeFrames() < further) {
            return FAILED;
        }
        for (int k = 0; k < further; k++) {
            int frame = freeFrame();
            addPage(slot, frame);
        }
        return before;
    }

    private int wordIndex(int slot, int address) {
        if (address < 0 || address >= pageCounts[slot] * PAGE_WORDS) {
            return NONE;
        }
        int frame = pageFrames[slot * PAGES + address / PAGE_WORDS];
        return frame * PAGE_WORDS + address % PAGE_WORDS;
    }

    private void loadWord(int slot, int register, int address) {
        int index = wordIndex(slot, address);
        if (index == NONE) {
            endProcess(slot, KILLED);
            return;
        }
        registers[register] = frameWords[index];
    }

    private void storeWord(int slot, int value, int address) {
        if (wordIndex(slot, address) == NONE || !ownPage(slot, address / PAGE_WORDS)) {
            endProcess(slot, KILLED);
            return;
        }
        // Looked up anew: the page may have got another frame.
        frameWords[wordIndex(slot, address)] = value;
    }

    private boolean ownPage(int slot, int page) {
        int entry = slot * PAGES + page;
        int shared = pageFrames[entry];
        if (frameUsers[shared] == 1) {
            return true;
        }
        int own = freeFrame();
        if (own == NONE) {
            return false;
        }
        for (int k = 0; k < PAGE_WORDS; k++) {
            frameWords[own * PAGE_WORDS + k] = frameWords[shared * PAGE_WORDS + k];
        }
        frameUsers[shared]--;
        frameUsers[own] = 1;
        pageFrames[entry] = own;
        copyCounts[slot]++;
        return true;
    }

    // Descriptors and open files

    private int freeDescriptor(int slot, int from) {
        for (int d = from; d < DESCRIPTORS; d++) {
            if (held[slot * DESCRIPTORS + d] == NONE) {
                return d;
            }
        }
        return NONE;
    }

    private int freeOpen(int from) {
        for (int open = from; open < OPENS; open++) {
            if (openHolders[open] == 0) {
                return open;
            }
        }
        return NONE;
    }

    private int countOpenFiles() {
        int count = 0;
        for (int open = 0; open < OPENS; open++) {
            if (openHolders[open] > 0) {
                count++;
            }
        }
        return count;
    }

    private int countOpens(int kind, int target) {
        int count = 0;
        for (int open = 0; open < OPENS; open++) {
            if (openHolders[open] > 0 && openKinds[open] == kind && openTargets[open] == target) {
                count++;
            }
        }
        return count;
    }

    /** The open file of descriptor R0, or NONE if it is not for any of these uses. */
    private int openFor(int slot, int uses) {
        int d = registers[slot * REGISTERS];
        if (d < 0 || d >= DESCRIPTORS) {
            return NONE;
        }
        int open = held[slot * DESCRIPTORS + d];
        return open == NONE || (openModes[open] & uses) == 0 ? NONE : open;
    }

    private void takeOpen(int slot, int d, int open, int kind, int target, int mode) {
        held[slot * DESCRIPTORS + d] = open;
        openHolders[open] = 1;
        openKinds[open] = kind;
        openTargets[open] = target;
        openPlaces[open] = 0;
        openModes[open] = mode;
    }

    private void letGo(int slot, int d) {
        int open = held[slot * DESCRIPTORS + d];
        if (open != NONE) {
            openHolders[open]--;
            held[slot * DESCRIPTORS + d] = NONE;
        }
    }

    private int closeDescriptor(int slot, int d) {
        if (openFor(slot, TO_USE) == NONE) {
            return FAILED;
        }
        letGo(slot, d);
        return 0;
    }

    private int copyDescriptor(int slot) {
        int open = openFor(slot, TO_USE);
        int d = freeDescriptor(slot, 0);
        if (open == NONE || d == NONE) {
            return FAILED;
        }
        held[slot * DESCRIPTORS + d] = open;
        openHolders[open]++;
        return d;
    }

    private int seekPlace(int slot, int place) {
        int open = openFor(slot, TO_USE);
        if (open == NONE || openKinds[open] != PLAIN_FILE) {
            return FAILED;
        }
        if (place < 0 || place > fileSizes[openTargets[open]]) {
            return FAILED;
        }
        openPlaces[open] = place;
        return 0;
    }

    private int readWord(int slot) {
        int open = openFor(slot, TO_READ);
        if (open == NONE) {
            return FAILED;
        }
        int target = openTargets[open];
        if (openKinds[open] == READ_END) {
            return readPipe(slot, target);
        }
        int place = openPlaces[open];
        if (place >= fileSizes[target]) {
            return 0;
        }
        registers[slot * REGISTERS + 1] = fileWords[target * FILE_WORDS + place];
        openPlaces[open] = place + 1;
        return 1;
    }

    private int writeWord(int slot, int value) {
        int open = openFor(slot, TO_WRITE);
        if (open == NONE) {
            return FAILED;
        }
        int target = openTargets[open];
        if (openKinds[open] == WRITE_END) {
            return writePipe(target, value);
        }
        int size = fileSizes[target];
        int place = openPlaces[open] < size ? openPlaces[open] : size;
        boolean newBlock = place == size && size % BLOCK_WORDS == 0;
        if (place >= FILE_WORDS || newBlock && countFreeBlocks() == 0) {
            return 0;
        }
        fileWords[target * FILE_WORDS + place] = value;
        if (place == size) {
            fileSizes[target]++;
        }
        openPlaces[open] = place + 1;
        changes++;
        return 1;
    }

    // Pipes

    private boolean isFreePipe(int pipe) {
        for (int open = 0; open < OPENS; open++) {
            if (openHolders[open] > 0 && openKinds[open] != PLAIN_FILE && openTargets[open] == pipe) {
                return false;
            }
        }
        return true;
    }

    private int freePipe() {
        for (int pipe = 0; pipe < PIPES; pipe++) {
            if (isFreePipe(pipe)) {
                return pipe;
            }
        }
        return NONE;
    }

    private int countPipes() {
        int count = 0;
        for (int pipe = 0; pipe < PIPES; pipe++) {
            if (!isFreePipe(pipe)) {
                count++;
            }
        }
        return count;
    }

    private int makePipe(int slot) {
        int reader = freeDescriptor(slot, 0);
        int writer = freeDescriptor(slot, reader + 1);
        int readEnd = freeOpen(0);
        int writeEnd = freeOpen(readEnd + 1);
        int pipe = freePipe();
        // A first one that is NONE makes the second one NONE, too.
        if (writer == NONE || writeEnd == NONE || pipe == NONE) {
            return FAILED;
        }
        takeOpen(slot, reader, readEnd, READ_END, pipe, TO_READ);
        takeOpen(slot, writer, writeEnd, WRITE_END, pipe, TO_WRITE);
        pipeFirsts[pipe] = 0;
        pipeCounts[pipe] = 0;
        registers[slot * REGISTERS + 1] = writer;
        return reader;
    }

    private boolean readBlocks(int slot) {
        int open = openFor(slot, TO_READ);
        if (open == NONE || openKinds[open] != READ_END) {
            return false;
        }
        int pipe = openTargets[open];
        return pipeCounts[pipe] == 0 && countOpens(WRITE_END, pipe) > 0;
    }

    private boolean writeBlocks(int slot) {
        int open = openFor(slot, TO_WRITE);
        if (open == NONE || openKinds[open] != WRITE_END) {
            return false;
        }
        int pipe = openTargets[open];
        return pipeCounts[pipe] >= PIPE_WORDS && countOpens(READ_END, pipe) > 0;
    }

    private boolean hasNoReader(int slot) {
        int open = openFor(slot, TO_WRITE);
        return open != NONE && openKinds[open] == WRITE_END && countOpens(READ_END, openTargets[open]) == 0;
    }

    private int readPipe(int slot, int pipe) {
        if (pipeCounts[pipe] == 0) {
            return 0;
        }
        int first = pipeFirsts[pipe];
        registers[slot * REGISTERS + 1] = pipeWords[pipe * PIPE_WORDS + first];
        pipeFirsts[pipe] = (first + 1) % PIPE_WORDS;
        pipeCounts[pipe]--;
        return 1;
    }

    private int writePipe(int pipe, int value) {
        int behind = (pipeFirsts[pipe] + pipeCounts[pipe]) % PIPE_WORDS;
        pipeWords[pipe * PIPE_WORDS + behind] = value;
        pipeCounts[pipe]++;
        return 1;
    }

    // Names and files

    private boolean isName(int k) {
        return k >= 0 && k < NAMES;
    }

    private boolean isMode(int mode) {
        boolean inRange = mode >= 1 && mode <= MODE_LIMIT && (mode & TO_USE) != 0;
        return inRange && ((mode & TO_EMPTY) == 0 || (mode & TO_WRITE) != 0);
    }

    private boolean isFreeFile(int i) {
        for (int k = 0; k < NAMES; k++) {
            if (nameFiles[k] == i) {
                return false;
            }
        }
        for (int open = 0; open < OPENS; open++) {
            if (openHolders[open] > 0 && openKinds[open] == PLAIN_FILE && openTargets[open] == i) {
                return false;
            }
        }
        return true;
    }

    private int freeFile() {
        for (int i = 0; i < FILES; i++) {
            if (isFreeFile(i)) {
                return i;
            }
        }
        return NONE;
    }

    private int countFreeFiles() {
        int count = 0;
        for (int i = 0; i < FILES; i++) {
            if (isFreeFile(i)) {
                count++;
            }
        }
        return count;
    }

    private int countFreeBlocks() {
        int count = BLOCKS;
        for (int i = 0; i < FILES; i++) {
            if (!isFreeFile(i)) {
                count -= (fileSizes[i] + BLOCK_WORDS - 1) / BLOCK_WORDS;
            }
        }
        return count;
    }

    private int countNames(int i) {
        int count = 0;
        for (int k = 0; k < NAMES; k++) {
            if (nameFiles[k] == i) {
                count++;
            }
        }
        return count;
    }

    private int openName(int slot, int k, int mode) {
        int d = freeDescriptor(slot, 0);
        int open = freeOpen(0);
        if (!isName(k) || !isMode(mode) || d == NONE || open == NONE) {
            return FAILED;
        }
        int i = nameFiles[k];
        boolean makes = i == NONE && (mode & TO_MAKE) != 0;
        if (makes) {
            i = freeFile();
        }
        if (i == NONE) {
            return FAILED;
        }
        if (makes || (mode & TO_EMPTY) != 0) {
            nameFiles[k] = i;
            fileSizes[i] = 0;
            changes++;
        }
        takeOpen(slot, d, open, PLAIN_FILE, i, mode);
        return d;
    }

    private int linkName(int from, int to) {
        if (!isName(from) || !isName(to) || nameFiles[from] == NONE || nameFiles[to] != NONE) {
            return FAILED;
        }
        nameFiles[to] = nameFiles[from];
        changes++;
        return 0;
    }

    private int unlinkName(int k) {
        if (!isName(k) || nameFiles[k] == NONE) {
            return FAILED;
        }
        nameFiles[k] = NONE;
        changes++;
        return 0;
    }

    private void commitFiles() {
        copyFiles(nameFiles, fileSizes, fileWords, safeNames, safeSizes, safeWords);
        changes = 0;
    }

    private void copyFiles(int[] names, int[] sizes, int[] words, int[] toNames, int[] toSizes, int[] toWords) {
        for (int k = 0; k < NAMES; k++) {
            toNames[k] = names[k];
        }
        for (int i = 0; i < FILES; i++) {
            toSizes[i] = sizes[i];
        }
        for (int k = 0; k < ALL_FILE_WORDS; k++) {
            toWords[k] = words[k];
        }
    }
}
