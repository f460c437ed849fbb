import java.util.ArrayList;
import java.util.LinkedHashMap;
import java.util.List;
import java.util.Map;
import java.util.function.ToIntFunction;

/** Every answer about the state behind a story, so that a test can say what changed, and that nothing else did. */
final class Look {
    private static final int PIDS = 10;

    private static final class Question {
        final String text;
        final ToIntFunction<UnixDesk> call;

        Question(String text, ToIntFunction<UnixDesk> call) {
            this.text = text;
            this.call = call;
        }
    }

    private static final List<Question> NOW = new ArrayList<>();
    private static final List<Question> BEHIND_A_CRASH = new ArrayList<>();

    static {
        for (int pid = 1; pid <= PIDS; pid++) {
            askOfProcess(pid);
        }
        askOfFiles(NOW, "");
        for (int k = 0; k < 16; k++) {
            int at = k;
            NOW.add(new Question("said(" + k + ")", x -> x.said(at)));
        }
        for (int k = 0; k <= 10; k++) {
            int what = k;
            NOW.add(new Question("total(" + k + ")", x -> x.total(what)));
        }
        BEHIND_A_CRASH.add(new Question("crash()", UnixDesk::crash));
        askOfFiles(BEHIND_A_CRASH, "SAFE ");
        for (int k = 0; k < 6; k++) {
            int program = k;
            BEHIND_A_CRASH.add(new Question("clear(" + k + ")", x -> x.clear(program)));
        }
    }

    private final Map<String, Integer> answers = new LinkedHashMap<>();

    private static void askOfProcess(int pid) {
        for (int k = 0; k <= 13; k++) {
            int what = k;
            NOW.add(new Question(process(pid, k), x -> x.process(pid, what)));
        }
        for (int k = 0; k < 32; k++) {
            int address = k;
            NOW.add(new Question(memory(pid, k), x -> x.memory(pid, address)));
        }
        for (int k = 0; k < 8; k++) {
            int page = k;
            NOW.add(new Question(sharing(pid, k), x -> x.sharing(pid, page)));
        }
        for (int k = 0; k < 24; k++) {
            int d = k / 4;
            int what = k % 4;
            NOW.add(new Question(descriptor(pid, d, what), x -> x.descriptor(pid, d, what)));
        }
    }

    private static void askOfFiles(List<Question> questions, String mark) {
        for (int k = 0; k < 8; k++) {
            int i = k;
            questions.add(new Question(mark + name(i), x -> x.name(i)));
            for (int what = 0; what < 3; what++) {
                int asked = what;
                questions.add(new Question(mark + file(i, what), x -> x.file(i, asked)));
            }
            for (int at = 0; at < 16; at++) {
                int word = at;
                questions.add(new Question(mark + word(i, at), x -> x.word(i, word)));
            }
        }
    }

    static String process(int pid, int what) { return "process(" + pid + ", " + what + ")"; }
    static String memory(int pid, int address) { return "memory(" + pid + ", " + address + ")"; }
    static String sharing(int pid, int page) { return "sharing(" + pid + ", " + page + ")"; }
    static String descriptor(int pid, int d, int what) { return "descriptor(" + pid + ", " + d + ", " + what + ")"; }
    static String name(int k) { return "name(" + k + ")"; }
    static String file(int i, int what) { return "file(" + i + ", " + what + ")"; }
    static String word(int i, int k) { return "word(" + i + ", " + k + ")"; }
    static String total(int what) { return "total(" + what + ")"; }

    static Look at(Story story) {
        Look look = new Look();
        int calls = story.callsLeft();
        for (int from = 0; from < NOW.size(); from += calls) {
            UnixDesk x = story.told();
            look.ask(x, NOW.subList(from, Math.min(from + calls, NOW.size())));
        }
        Check.due("calls are left", true, BEHIND_A_CRASH.size() <= calls);
        look.ask(story.told(), BEHIND_A_CRASH);
        return look;
    }

    private void ask(UnixDesk x, List<Question> questions) {
        for (Question question : questions) {
            answers.put(question.text, question.call.applyAsInt(x));
        }
    }

    int answer(String question) {
        return answers.get(question);
    }

    /** This, but for one answer. */
    Look but(String question, int answer) {
        if (!answers.containsKey(question)) {
            throw new IllegalArgumentException(question);
        }
        Look changed = new Look();
        changed.answers.putAll(answers);
        changed.answers.put(question, answer);
        return changed;
    }

    Look more(String question, int by) {
        return but(question, answer(question) + by);
    }

    /** A step of a process, which stays at its instruction. */
    Look stepped(int pid) {
        return more(total(5), 1).but(total(9), pid).more(process(pid, 7), 1);
    }

    /** A step of a process, which goes on behind its instruction. */
    Look went(int pid) {
        return stepped(pid).more(process(pid, 3), 1);
    }

    /** A call that is done and gives this. */
    Look gave(int pid, int r0) {
        return went(pid).but(process(pid, 10), r0);
    }

    Look blocked(int pid) {
        return stepped(pid).but(process(pid, 0), 2);
    }

    /** A process is a ZOMBIE, that had these descriptors and pages: what it had is no more. */
    Look zombie(int pid, int status) {
        Look look = but(process(pid, 0), 3).but(process(pid, 4), 0).but(process(pid, 5), status);
        for (int address = 0; address < 32; address++) look = look.but(memory(pid, address), 0);
        for (int page = 0; page < 8; page++) look = look.but(sharing(pid, page), 0);
        for (int k = 0; k < 24; k++) look = look.but(descriptor(pid, k / 4, k % 4), UnixDesk.BAD);
        return look;
    }

    /** A process is no more. */
    Look gone(int pid) {
        Look look = zombie(pid, UnixDesk.BAD).more(total(0), -1).more("crash()", -1);
        for (int what = 0; what <= 13; what++) look = look.but(process(pid, what), UnixDesk.BAD);
        return look;
    }

    /** A FORK that gives a child in a slot; each page has then one more that has its frame, each open file too. */
    Look forked(int pid, int child, int slot) {
        Look look = gave(pid, child).more(total(0), 1).more("crash()", 1).but(total(10), child);
        for (int what = 0; what <= 13; what++) look = look.but(process(child, what), look.answer(process(pid, what)));
        look = look.but(process(child, 1), pid).but(process(child, 6), slot);
        look = look.but(process(child, 7), 0).but(process(child, 8), 0).but(process(child, 10), 0);
        for (int k = 0; k < 32; k++) look = look.but(memory(child, k), look.answer(memory(pid, k)));
        for (int page = 0; page < look.answer(process(pid, 4)); page++) {
            look = look.more(sharing(pid, page), 1);
            look = look.but(sharing(child, page), look.answer(sharing(pid, page)));
        }
        for (int k = 0; k < 24; k++) {
            boolean holders = k % 4 == 3 && look.answer(descriptor(pid, k / 4, 0)) != 0;
            look = look.more(descriptor(pid, k / 4, k % 4), holders ? 1 : 0);
            look = look.but(descriptor(child, k / 4, k % 4), look.answer(descriptor(pid, k / 4, k % 4)));
        }
        return look;
    }

    /** An EXEC: but for sharing of other pages and FREE frames, which depend on who else had its pages. */
    Look executed(int pid, int program) {
        Look look = stepped(pid).but(process(pid, 2), program).but(process(pid, 3), 0).but(process(pid, 4), 1);
        for (int register = 0; register <= 3; register++) look = look.but(process(pid, 10 + register), 0);
        for (int address = 0; address < 32; address++) look = look.but(memory(pid, address), 0);
        for (int page = 0; page < 8; page++) look = look.but(sharing(pid, page), page == 0 ? 1 : 0);
        return look;
    }

    /** A PIPE that gives these descriptors. */
    Look piped(int pid, int reader, int writer) {
        Look look = gave(pid, reader).but(process(pid, 11), writer).more(total(4), 1).more(total(8), 2);
        return look.holds(pid, reader, 2, -1, 0, 1).holds(pid, writer, 3, -1, 0, 1);
    }

    /** The answers about a descriptor. */
    Look holds(int pid, int d, int... answers) {
        Look look = this;
        for (int what = 0; what <= 3; what++) look = look.but(descriptor(pid, d, what), answers[what]);
        return look;
    }

    /** A descriptor is free. */
    Look closed(int pid, int d) {
        return holds(pid, d, 0, UnixDesk.BAD, UnixDesk.BAD, UnixDesk.BAD);
    }

    /** A crash: no process is left, and names and files are those that were SAFE. */
    Look crashed() {
        Look look = but("crash()", 0).but(total(0), 0).but(total(1), 20).but(total(4), 0).but(total(7), 0).but(total(8), 0);
        for (Question question : NOW) {
            String text = question.text;
            boolean bad = text.startsWith("process") || text.startsWith("descriptor");
            if (bad) look.answers.put(text, UnixDesk.BAD);
            if (text.startsWith("memory") || text.startsWith("sharing")) look.answers.put(text, 0);
            if (answers.containsKey("SAFE " + text)) look.answers.put(text, answer("SAFE " + text));
        }
        int files = 8;
        int blocks = 16;
        for (int i = 0; i < 8; i++) {
            int size = look.answer(file(i, 0));
            files -= size == UnixDesk.BAD ? 0 : 1;
            blocks -= size == UnixDesk.BAD ? 0 : (size + 3) / 4;
        }
        return look.but(total(2), blocks).but(total(3), files);
    }

    /** A COMMIT: names and files are SAFE as they are, but for files without a name, and for what is open. */
    Look committed() {
        Look look = but(total(7), 0);
        for (int i = 0; i < 8; i++) {
            boolean named = answer(file(i, 1)) > 0;
            look.answers.put("SAFE " + name(i), answer(name(i)));
            look.answers.put("SAFE " + file(i, 0), named ? answer(file(i, 0)) : UnixDesk.BAD);
            look.answers.put("SAFE " + file(i, 1), named ? answer(file(i, 1)) : UnixDesk.BAD);
            look.answers.put("SAFE " + file(i, 2), named ? 0 : UnixDesk.BAD);
            for (int k = 0; k < 16; k++) look.answers.put("SAFE " + word(i, k), named ? answer(word(i, k)) : 0);
        }
        return look;
    }

    /** Compares this, which is due, with what there is behind a story. */
    void due(String what, Story story) {
        Look got = at(story);
        answers.forEach((question, answer) -> Check.due(what + ": " + question, answer, got.answers.get(question)));
    }
}
