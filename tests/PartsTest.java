/** Promises 30 to 33: part, trace, taken, count. */
public final class PartsTest {
    private static final int LOW = Integer.MIN_VALUE, HIGH = Integer.MAX_VALUE;

    /** Place 3 is of a kind, with v 5. */
    private static DonkeyBridge at(int kind) {
        DonkeyBridge x = new DonkeyBridge();
        x.place(0, 1, 0);
        x.place(0, 2, 0);
        x.place(0, 3, 0);
        x.place(kind, 5, 0);
        return x;
    }

    private static void part(Check c, int kind, int part, int in, int due, long... trace) {
        DonkeyBridge x = at(kind);
        c.due("kind " + kind + " part " + part + " of " + in, x.part(3, part, in), due);
        long[] got = new long[x.count(6)];
        for (int i = 0; i < got.length; i++) {
            got[i] = x.trace(i);
        }
        c.dueRow("trace of kind " + kind + " part " + part, got, trace);
        c.due("trace -1", x.trace(-1), -1);
        c.due("trace behind the last", x.trace(got.length), -1);
    }

    private static void parts(Check c) {
        part(c, 0, 0, 20, 23, 10);
        part(c, 0, 1, 20, 18, 11, 10);
        part(c, 0, 2, 20, 36, 12, 11, 10);
        part(c, 1, 0, 20, 23, 10);
        part(c, 1, 1, 20, 18 ^ 6, 20, 11, 10);
        part(c, 1, 2, 20, 40, 12, 20, 11, 10);
        part(c, 2, 0, 20, 63, 30, 10);
        part(c, 2, 1, 20, 58, 11, 30, 10);
        part(c, 2, 2, 20, 116, 12, 11, 30, 10);
        part(c, 3, 0, 20, 23, 10);
        part(c, 3, 1, 20, 18, 11, 10);
        part(c, 3, 2, 20, 36 - 1, 40, 12, 11, 10, 11, 10);
        part(c, 4, 0, 20, -23, 50, 10);
        part(c, 4, 1, 20, -29 ^ 6, 51, 20, 11, 50, 10);
        part(c, 4, 2, 20, (-29 ^ 6) * 2, 12, 51, 20, 11, 50, 10);
        part(c, 5, 0, 20, 63, 30, 10);
        part(c, 5, 1, 20, 58, 11, 30, 10);
        part(c, 5, 2, 20, (17 * 3 + 3 - 5) * 2, 60, 12, 11, 30, 10);
        part(c, 6, 0, 20, 23 ^ 5, 71, 10);
        part(c, 6, 1, 20, (23 ^ 5) - 5 + 5, 70, 11, 71, 10, 10);
        part(c, 6, 2, 20, (23 ^ 5) * 2 + (4 ^ 5), 40, 12, 70, 11, 71, 10, 10, 70, 11, 71, 10, 10);
        part(c, 0, 0, HIGH, LOW + 2, 10);
        part(c, 2, 0, 1 << 30, (1 << 30) * 3 + 3, 30, 10);
        part(c, 0, 2, HIGH, (LOW + 2 - 5) * 2, 12, 11, 10);
    }

    private static void none(Check c, int place, int part) {
        DonkeyBridge x = at(6);
        x.part(3, 2, 1);
        c.due("twelve bodies", x.count(6), 12);
        c.due("part " + part + " of place " + place, x.part(place, part, 9), 0);
        c.due("no trace", x.trace(0), -1);
        c.due("no bodies", x.count(6), 0);
    }

    private static void taken(Check c) {
        int[] above = {-1, 0, 0, 0, 1, 2, 3};
        for (int kind = 0; kind <= 6; kind++) {
            DonkeyBridge x = at(kind);
            for (int k = 0; k <= 6; k++) {
                boolean under = k == 0 || k == kind || k == above[kind];
                c.due("kind " + kind + " taken for " + k, x.taken(3, k), under ? kind : -12);
            }
        }
        DonkeyBridge x = at(6);
        c.due("k -1", x.taken(0, -1), -2);
        c.due("k 7", x.taken(0, 7), -2);
        c.due("bad ahead of nothing", x.taken(9, 7), -2);
        c.due("place -1", x.taken(-1, 0), -11);
        c.due("place 4", x.taken(4, 6), -11);
        c.due("place high", x.taken(HIGH, 0), -11);
    }

    private static void counts(Check c) {
        DonkeyBridge x = at(3);
        Check.law(x, "hit 1");
        Check.law(x, "hit 2");
        Check.acts(x, 1, 2, 3);
        for (int i = 0; i < 5; i++) {
            x.film(0);
            x.feed(65);
        }
        x.feed(65);
        x.beast(9);
        x.part(3, 0, 0);
        int[] due = {4, 2, 3, 5, 1, 6, 1};
        for (int what = 0; what < due.length; what++) {
            c.due("count " + what, x.count(what), due[what]);
        }
        c.due("count -1", x.count(-1), -2);
        c.due("count 7", x.count(7), -2);
        c.due("count low", x.count(LOW), -2);
    }

    public static void main(String[] args) {
        Check c = new Check("PartsTest");
        parts(c);
        none(c, -1, 0);
        none(c, 4, 0);
        none(c, HIGH, 0);
        none(c, 3, -1);
        none(c, 3, 3);
        none(c, 3, LOW);
        taken(c);
        counts(c);
        c.end();
    }
}
