/** Promise 1. */
public final class NewObjectTest {
    public static void main(String[] args) {
        UnixDesk x = new UnixDesk();
        int[] totals = {0, 20, 16, 8, 0, 0, 0, 0, 0, 0, 0};
        for (int what = 0; what < totals.length; what++) {
            Check.due("total " + what, totals[what], x.total(what));
        }
        for (int k = 0; k < 8; k++) {
            Check.due("name " + k, -1, x.name(k));
            Check.due("file " + k, UnixDesk.BAD, x.file(k, 0));
            Check.due("word " + k, 0, x.word(k, 0));
            Check.due("process " + k, UnixDesk.BAD, x.process(k, 0));
        }
        Check.due("said", 0, x.said(0));
        Check.due("run with no process", 0, x.run(200));
        Check.due("crash with no process", 0, x.crash());
        for (int program = 0; program < 6; program++) {
            Check.due("clear " + program, 0, x.clear(program));
        }
        Check.due("BAD", -1, UnixDesk.BAD);
        Check.due("FULL", -2, UnixDesk.FULL);
        Check.finish();
    }
}
