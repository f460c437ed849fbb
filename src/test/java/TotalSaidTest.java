/** Promises 14 and 15. */
public final class TotalSaidTest {
    private static void totals(String what, UnixDesk x, int... due) {
        for (int k = 0; k < due.length; k++) {
            Check.due(what + ": total " + k, due[k], x.total(k));
        }
    }

    private static void eachTotal() {
        UnixDesk x = Code.booted(
            Code.call(Code.GROW, 2), Code.call(Code.FORK), Code.call(Code.PIPE), Code.call(Code.OPEN, 3, 7),
            Code.call(Code.WRITE, 2, 5), Code.call(Code.SAY), Code.call(Code.SLEEP, 100));
        totals("boot", x, 1, 19, 16, 8, 0, 0, 0, 0, 0, 0, 1);
        Check.due("run", 3, x.run(3));
        totals("GROW, FORK", x, 2, 17, 16, 8, 0, 3, 0, 0, 0, 1, 2);
        Check.due("run", 4, x.run(4));
        totals("PIPE", x, 2, 17, 16, 8, 2, 7, 0, 0, 4, 2, 2);
        Check.due("run", 3 + 4, x.run(7));
        totals("OPEN", x, 2, 17, 16, 7, 2, 14, 0, 1, 6, 1, 2);
        x.run(200);
        Check.due("processes", 0, x.total(0));
        Check.due("FREE frames", 20, x.total(1));
        Check.due("FREE blocks", 15, x.total(2));
        Check.due("FREE files", 7, x.total(3));
        Check.due("pipes", 0, x.total(4));
        Check.due("said", 2, x.total(6));
        Check.due("CHANGES", 3, x.total(7));
        Check.due("open files", 0, x.total(8));
        Check.due("greatest pid", 2, x.total(10));
        int[] none = {-1, 11, 12, Integer.MIN_VALUE, Integer.MAX_VALUE};
        for (int what : none) {
            Check.due("total " + what, UnixDesk.BAD, x.total(what));
        }
    }

    private static void greatestPid() {
        UnixDesk x = new UnixDesk();
        Check.due("at first", 0, x.total(10));
        Code.boot(x, Code.call(Code.FORK), Code.zero(0, 4), Code.call(Code.WAIT), Code.go(0), Code.call(Code.EXIT));
        Check.due("boot", 1, x.total(10));
        Check.due("run", 200, x.run(200));
        Check.due("many pids, few slots", true, x.total(10) > 20);
        Check.due("processes", true, x.total(0) <= 2);
        int greatest = x.total(10);
        x.crash();
        Check.due("stays", greatest, x.total(10));
        Check.due("boot", true, x.boot(0));
        Check.due("anew", 1, x.total(10));
        Check.due("no step", 0, x.total(9));
    }

    private static void lastSaid() {
        UnixDesk x = Code.booted(Code.set(1, 1), Code.add(0, 1), Code.call(Code.SAY), Code.go(1));
        Check.due("run", 1, x.run(1));
        for (int said = 1; said <= 20; said++) {
            Check.due("run", 3, x.run(3));
            Check.due("SAY gives it", said, x.process(1, 10));
            Check.due("how many", said, x.total(6));
            for (int k = 0; k < 20; k++) {
                Check.due("said " + k, k < 16 && k < said ? said - k : 0, x.said(k));
            }
        }
        int[] none = {-1, 16, 20, Integer.MIN_VALUE, Integer.MAX_VALUE};
        for (int k : none) {
            Check.due("said " + k, 0, x.said(k));
        }
    }

    public static void main(String[] args) {
        eachTotal();
        greatestPid();
        lastSaid();
        Check.finish();
    }
}
