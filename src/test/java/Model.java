import java.util.ArrayDeque;
import java.util.ArrayList;
import java.util.Deque;
import java.util.HashSet;
import java.util.IdentityHashMap;
import java.util.List;
import java.util.Map;
import java.util.Set;
import java.util.TreeMap;

/** The document once more, over objects and collections, for RandomRunsTest to compare the class with. */
final class Model {
    static final int BAD = -1, FULL = -2;

    private static final class Frame {
        final int[] words = new int[4];
    }

    private static final class Body {
        final List<Integer> words = new ArrayList<>();

        Body copy() {
            Body other = new Body();
            other.words.addAll(words);
            return other;
        }
    }

    private static final class Pipe {
        final Deque<Integer> words = new ArrayDeque<>();
    }

    private static final class Open {
        Body body;
        Pipe pipe;
        boolean reads, writes;
        int place;
    }

    private static final class Proc {
        int pid, parent, program, at, status, steps, copies;
        boolean zombie, tried;
        long wake = -1;
        final int[] r = new int[4];
        final List<Frame> pages = new ArrayList<>();
        final Open[] held = new Open[6];
    }

    /** How often rare things happened, so that the test can tell that its runs reach them. */
    final Map<String, Integer> seen = new TreeMap<>();

    private final List<List<int[]>> programs = new ArrayList<>();
    private final Proc[] slots = new Proc[8];
    private Body[] names = new Body[8];
    private Body[] files = new Body[8];
    private Body[] safeNames = new Body[8];
    private Body[] safeFiles = new Body[8];
    private final List<Integer> said = new ArrayList<>();
    private long time;
    private int changes, latest, greatest, before = 7, since;

    Model() {
        for (int k = 0; k < 6; k++) programs.add(new ArrayList<>());
    }

    private void note(String event) {
        seen.merge(event, 1, Integer::sum);
    }

    // The public face

    int add(int program, int op, int a, int b) {
        boolean usesA = op != 6 && op != 8;
        boolean bIsRegister = op >= 1 && op <= 5;
        int limit = bIsRegister ? 3 : op == 8 ? 18 : 23;
        boolean bad = program < 0 || program > 5 || op < 0 || op > 8 || usesA && (a < 0 || a > 3)
            || op != 0 && (b < 0 || b > limit) || !procs().isEmpty();
        if (bad) return BAD;
        if (programs.get(program).size() == 24) return FULL;
        programs.get(program).add(new int[] {op, a, b});
        return programs.get(program).size();
    }

    int clear(int program) {
        if (program < 0 || program > 5 || !procs().isEmpty()) return BAD;
        int had = programs.get(program).size();
        programs.get(program).clear();
        return had;
    }

    boolean boot(int program) {
        if (program < 0 || program > 5 || !procs().isEmpty()) return false;
        Proc p = new Proc();
        p.pid = greatest = 1;
        p.program = program;
        p.pages.add(new Frame());
        slots[0] = p;
        latest = 0;
        before = 7;
        return true;
    }

    int run(int n) {
        if (n < 1 || n > 200 || time > 1000000000) return BAD;
        int done = 0;
        while (done < n) {
            int slot = next();
            if (slot < 0) {
                long least = Long.MAX_VALUE;
                for (Proc p : procs()) if (!p.zombie && p.wake > time) least = Math.min(least, p.wake);
                if (least == Long.MAX_VALUE) {
                    if (!procs().isEmpty()) note("deadlock");
                    break;
                }
                time = least;
                note("skip");
                continue;
            }
            if (slot != before || since == 5) since = 0;
            before = slot;
            since++;
            time++;
            step(slots[slot]);
            done++;
        }
        return done;
    }

    int crash() {
        int were = procs().size();
        java.util.Arrays.fill(slots, null);
        names = new Body[8];
        files = new Body[8];
        for (int k = 0; k < 8; k++) {
            if (safeNames[k] == null) continue;
            int number = numberIn(safeFiles, safeNames[k]);
            if (files[number] == null) files[number] = safeFiles[number].copy();
            names[k] = files[number];
        }
        changes = 0;
        return were;
    }

    int process(int pid, int what) {
        Proc p = find(pid);
        if (p == null) return BAD;
        int[] answers = {p.zombie ? 3 : ready(p) ? 1 : 2, p.parent, p.program, p.at, p.pages.size(),
            p.zombie ? p.status : 0, slotOf(p), p.steps, p.copies, BAD, p.r[0], p.r[1], p.r[2], p.r[3]};
        return what < 0 || what >= answers.length ? BAD : answers[what];
    }

    int memory(int pid, int address) {
        Proc p = find(pid);
        return p == null || address < 0 || address / 4 >= p.pages.size() ? 0
            : p.pages.get(address / 4).words[address % 4];
    }

    int sharing(int pid, int page) {
        Proc p = find(pid);
        return p == null || page < 0 || page >= p.pages.size() ? 0 : users(p.pages.get(page));
    }

    int descriptor(int pid, int d, int what) {
        Proc p = find(pid);
        if (p == null || p.zombie || d < 0 || d > 5 || what < 0 || what > 3) return BAD;
        Open o = p.held[d];
        if (o == null) return what == 0 ? 0 : BAD;
        switch (what) {
            case 0: return o.body != null ? 1 : o.reads ? 2 : 3;
            case 1: return o.body != null ? numberIn(files, o.body) : -1;
            case 2: return o.place;
            default: return opens().get(o);
        }
    }

    int name(int k) {
        return k < 0 || k > 7 || names[k] == null ? -1 : numberIn(files, names[k]);
    }

    int file(int i, int what) {
        if (i < 0 || i > 7 || files[i] == null || what < 0 || what > 2) return BAD;
        int count = what == 0 ? files[i].words.size() : 0;
        if (what == 1) for (Body b : names) if (b == files[i]) count++;
        if (what == 2) for (Open o : opens().keySet()) if (o.body == files[i]) count++;
        return count;
    }

    int word(int i, int k) {
        return i < 0 || i > 7 || files[i] == null || k < 0 || k >= files[i].words.size() ? 0 : files[i].words.get(k);
    }

    int total(int what) {
        switch (what) {
            case 0: return procs().size();
            case 1: return 20 - frames().size();
            case 2: return freeBlocks();
            case 3: {
                int free = 0;
                for (Body b : files) if (b == null) free++;
                return free;
            }
            case 4: return pipes().size();
            case 5: return (int) time;
            case 6: return said.size();
            case 7: return changes;
            case 8: return opens().size();
            case 9: return latest;
            case 10: return greatest;
            default: return BAD;
        }
    }

    int said(int k) {
        return k < 0 || k > 15 || k >= said.size() ? 0 : said.get(said.size() - 1 - k);
    }

    // What there is

    private List<Proc> procs() {
        List<Proc> all = new ArrayList<>();
        for (Proc p : slots) if (p != null) all.add(p);
        return all;
    }

    private Proc find(int pid) {
        for (Proc p : procs()) if (p.pid == pid) return p;
        return null;
    }

    private int slotOf(Proc p) {
        for (int k = 0; k < 8; k++) if (slots[k] == p) return k;
        throw new IllegalStateException("no slot");
    }

    private Set<Frame> frames() {
        Set<Frame> all = new HashSet<>();
        for (Proc p : procs()) all.addAll(p.pages);
        return all;
    }

    private int users(Frame f) {
        int count = 0;
        for (Proc p : procs()) for (Frame g : p.pages) if (g == f) count++;
        return count;
    }

    private Map<Open, Integer> opens() {
        Map<Open, Integer> all = new IdentityHashMap<>();
        for (Proc p : procs()) for (Open o : p.held) if (o != null) all.merge(o, 1, Integer::sum);
        return all;
    }

    private Set<Pipe> pipes() {
        Set<Pipe> all = new HashSet<>();
        for (Open o : opens().keySet()) if (o.pipe != null) all.add(o.pipe);
        return all;
    }

    private boolean hasEnd(Pipe pipe, boolean forReading) {
        for (Open o : opens().keySet()) if (o.pipe == pipe && o.reads == forReading) return true;
        return false;
    }

    private int numberIn(Body[] all, Body b) {
        for (int k = 0; k < 8; k++) if (all[k] == b) return k;
        throw new IllegalStateException("no such file");
    }

    private int freeBlocks() {
        int free = 16;
        for (Body b : files) if (b != null) free -= (b.words.size() + 3) / 4;
        return free;
    }

    private void forgetFreeFiles() {
        for (int k = 0; k < 8; k++) {
            if (files[k] != null && file(k, 1) == 0 && file(k, 2) == 0) files[k] = null;
        }
    }

    // Steps

    private int next() {
        Proc same = slots[before];
        if (same != null && ready(same) && since < 5) return before;
        for (int k = 1; k <= 8; k++) {
            Proc p = slots[(before + k) % 8];
            if (p != null && ready(p)) return (before + k) % 8;
        }
        return -1;
    }

    private boolean ready(Proc p) {
        return !p.zombie && !(p.tried && blocked(p, programs.get(p.program).get(p.at)[2]));
    }

    private boolean blocked(Proc p, int call) {
        if (call == 14) return p.wake > time;
        if (call == 2) {
            boolean child = false;
            for (Proc q : procs()) {
                if (q.parent == p.pid && q.zombie) return false;
                if (q.parent == p.pid) child = true;
            }
            return child;
        }
        Open o = p.r[0] < 0 || p.r[0] > 5 ? null : p.held[p.r[0]];
        if (o == null || o.pipe == null) return false;
        if (call == 7) return o.reads && o.pipe.words.isEmpty() && hasEnd(o.pipe, false);
        return call == 8 && o.writes && o.pipe.words.size() == 4 && hasEnd(o.pipe, true);
    }

    private void step(Proc p) {
        p.steps++;
        latest = p.pid;
        if (p.at >= programs.get(p.program).size()) {
            note("end of program");
            exit(p, p.r[0]);
            forgetFreeFiles();
            return;
        }
        int[] code = programs.get(p.program).get(p.at);
        int a = code[1], b = code[2];
        if (code[0] == 8) {
            if (b == 14 && p.wake < 0 && p.r[0] >= 1 && p.r[0] <= 1000) p.wake = time + p.r[0];
            if (blocked(p, b)) {
                p.tried = true;
                note("blocked in " + b);
                return;
            }
            p.tried = false;
            p.wake = -1;
            p.at++;
            int given = call(p, b);
            if (!p.zombie) note("call " + b + (given == -1 ? " fails" : " is done"));
            if (!p.zombie || b == 3) p.r[0] = given;
            forgetFreeFiles();
            return;
        }
        p.at++;
        switch (code[0]) {
            case 0: p.r[a] = b; break;
            case 1: p.r[a] += p.r[b]; break;
            case 2: p.r[a] -= p.r[b]; break;
            case 3: p.r[a] = p.r[a] < p.r[b] ? 1 : 0; break;
            case 4: case 5: access(p, code[0] == 5, a, p.r[b]); break;
            case 6: p.at = b; break;
            default: if (p.r[a] == 0) p.at = b;
        }
        forgetFreeFiles();
    }

    private void access(Proc p, boolean writes, int a, int address) {
        if (address < 0 || address >= 4 * p.pages.size()) {
            note("bad address");
            exit(p, -1);
            return;
        }
        Frame f = p.pages.get(address / 4);
        if (!writes) {
            p.r[a] = f.words[address % 4];
            return;
        }
        if (users(f) > 1) {
            if (frames().size() == 20) {
                note("no frame to copy to");
                exit(p, -1);
                return;
            }
            Frame own = new Frame();
            System.arraycopy(f.words, 0, own.words, 0, 4);
            p.pages.set(address / 4, own);
            p.copies++;
            f = own;
            note("page copied");
        }
        f.words[address % 4] = p.r[a];
    }

    private void exit(Proc p, int status) {
        java.util.Arrays.fill(p.held, null);
        p.pages.clear();
        Proc first = find(1);
        int heir = p.pid == 1 || first == null || first.zombie ? 0 : 1;
        for (Proc q : procs()) {
            if (q.parent != p.pid) continue;
            q.parent = heir;
            note("orphan to " + heir);
            if (heir == 0 && q.zombie) {
                slots[slotOf(q)] = null;
                note("orphan zombie gone");
            }
        }
        p.zombie = true;
        p.status = status;
        if (p.parent == 0) slots[slotOf(p)] = null;
    }

    private int call(Proc p, int call) {
        int r0 = p.r[0], r1 = p.r[1];
        switch (call) {
            case 0: exit(p, r0); return r0;
            case 1: return fork(p);
            case 2: return waitFor(p);
            case 3: return kill(p, r0);
            case 4: return grow(p, r0);
            case 5: return exec(p, r0);
            case 6: return pipe(p);
            case 7: case 8: case 9: case 10: case 17: return onOpen(p, call, r0, r1);
            case 11: return open(p, r0, r1);
            case 12: case 13: return relink(call == 12, r0, r1);
            case 14: return r0 < 0 || r0 > 1000 ? -1 : 0;
            case 15: return p.pid;
            case 16: said.add(r0); return r0;
            default: commit(); return 0;
        }
    }

    private int fork(Proc p) {
        for (int k = 0; k < 8; k++) {
            if (slots[k] != null) continue;
            Proc q = new Proc();
            q.pid = ++greatest;
            q.parent = p.pid;
            q.program = p.program;
            q.at = p.at;
            System.arraycopy(p.r, 0, q.r, 0, 4);
            q.r[0] = 0;
            q.pages.addAll(p.pages);
            System.arraycopy(p.held, 0, q.held, 0, 6);
            slots[k] = q;
            return q.pid;
        }
        return -1;
    }

    private int waitFor(Proc p) {
        Proc least = null;
        for (Proc q : procs()) if (q.zombie && q.parent == p.pid && (least == null || q.pid < least.pid)) least = q;
        if (least == null) return -1;
        slots[slotOf(least)] = null;
        p.r[1] = least.status;
        return least.pid;
    }

    private int kill(Proc p, int pid) {
        Proc q = find(pid);
        if (q == null || q.zombie) return -1;
        note(q == p ? "kills itself" : q.tried ? "kills a blocked one" : "kills another");
        exit(q, -1);
        return 0;
    }

    private int grow(Proc p, int by) {
        int had = p.pages.size();
        if (by < 0 || by > 7 || had + by > 8) return -1;
        if (20 - frames().size() < by) {
            note("no frames to grow");
            return -1;
        }
        for (int k = 0; k < by; k++) p.pages.add(new Frame());
        return had;
    }

    private int exec(Proc p, int program) {
        if (program < 0 || program > 5) return -1;
        p.pages.clear();
        if (frames().size() == 20) {
            note("no frame for EXEC");
            exit(p, -1);
            return 0;
        }
        p.pages.add(new Frame());
        java.util.Arrays.fill(p.r, 0);
        p.program = program;
        p.at = 0;
        return 0;
    }

    private int freeDescriptor(Proc p) {
        for (int d = 0; d < 6; d++) if (p.held[d] == null) return d;
        return -1;
    }

    private int pipe(Proc p) {
        int free = 0;
        for (Open o : p.held) if (o == null) free++;
        if (free < 2) return -1;
        if (opens().size() > 10) {
            note("too many open files for a pipe");
            return -1;
        }
        if (pipes().size() == 4) {
            note("too many pipes");
            return -1;
        }
        Open in = new Open(), out = new Open();
        in.pipe = out.pipe = new Pipe();
        in.reads = true;
        out.writes = true;
        int reader = freeDescriptor(p);
        p.held[reader] = in;
        p.r[1] = freeDescriptor(p);
        p.held[p.r[1]] = out;
        return reader;
    }

    private int onOpen(Proc p, int call, int d, int value) {
        Open o = d < 0 || d > 5 ? null : p.held[d];
        if (o == null) return -1;
        if (call == 9) {
            p.held[d] = null;
            return 0;
        }
        if (call == 10) {
            int other = freeDescriptor(p);
            if (other >= 0) p.held[other] = o;
            return other;
        }
        if (call == 17) {
            if (o.body == null || value < 0 || value > o.body.words.size()) return -1;
            o.place = value;
            return 0;
        }
        if (call == 7 ? !o.reads : !o.writes) return -1;
        if (o.pipe != null) return call == 7 ? readPipe(p, o.pipe) : writePipe(p, o.pipe, value);
        return call == 7 ? readFile(p, o) : writeFile(o, value);
    }

    private int readPipe(Proc p, Pipe pipe) {
        if (pipe.words.isEmpty()) {
            note("end of a pipe");
            return 0;
        }
        p.r[1] = pipe.words.removeFirst();
        return 1;
    }

    private int writePipe(Proc p, Pipe pipe, int value) {
        if (!hasEnd(pipe, true)) {
            note(pipe.words.size() == 4 ? "broken full pipe" : "broken pipe");
            exit(p, -1);
            return 0;
        }
        pipe.words.addLast(value);
        return 1;
    }

    private int readFile(Proc p, Open o) {
        if (o.place >= o.body.words.size()) {
            note("end of a file");
            return 0;
        }
        p.r[1] = o.body.words.get(o.place++);
        return 1;
    }

    private int writeFile(Open o, int value) {
        int size = o.body.words.size();
        int place = Math.min(o.place, size);
        if (o.place > size) note("write with PLACE behind the size");
        if (place == 16) {
            note("file is full");
            return 0;
        }
        if (place == size) {
            if (size % 4 == 0 && freeBlocks() == 0) {
                note("no block");
                return 0;
            }
            o.body.words.add(value);
        } else {
            o.body.words.set(place, value);
        }
        o.place = place + 1;
        change();
        return 1;
    }

    private int open(Proc p, int k, int mode) {
        boolean bad = k < 0 || k > 7 || mode < 1 || mode > 15 || (mode & 3) == 0 || (mode & 10) == 8;
        int d = freeDescriptor(p);
        if (bad || d < 0) return -1;
        if (opens().size() == 12) {
            note("too many open files");
            return -1;
        }
        Body body = names[k];
        boolean changed = false;
        if (body == null) {
            if ((mode & 4) == 0) return -1;
            int i = 0;
            while (i < 8 && files[i] != null) i++;
            if (i == 8) {
                note("no free file");
                return -1;
            }
            files[i] = names[k] = body = new Body();
            changed = true;
        } else if ((mode & 8) != 0) {
            body.words.clear();
            changed = true;
        }
        Open o = new Open();
        o.body = body;
        o.reads = (mode & 1) != 0;
        o.writes = (mode & 2) != 0;
        p.held[d] = o;
        if (changed) change();
        return d;
    }

    private int relink(boolean link, int r0, int r1) {
        if (r0 < 0 || r0 > 7 || names[r0] == null) return -1;
        if (!link) {
            names[r0] = null;
        } else {
            if (r1 < 0 || r1 > 7 || names[r1] != null) return -1;
            names[r1] = names[r0];
        }
        change();
        return 0;
    }

    private void change() {
        changes++;
        if (changes == 30) {
            note("commit by itself");
            commit();
        }
    }

    private void commit() {
        safeNames = new Body[8];
        safeFiles = new Body[8];
        for (int i = 0; i < 8; i++) {
            if (files[i] == null) continue;
            safeFiles[i] = files[i].copy();
            for (int k = 0; k < 8; k++) if (names[k] == files[i]) safeNames[k] = safeFiles[i];
        }
        changes = 0;
    }
}
