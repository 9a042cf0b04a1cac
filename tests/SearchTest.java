/** Promises 14 to 19: soonest, gentlest, why, waits, round, shiftLoad. */
public final class SearchTest {
    private static final int LOW = Integer.MIN_VALUE, HIGH = Integer.MAX_VALUE;

    /** So many places of kind STAND with things 0, 1 and so on. */
    private static DonkeyBridge road(int places, String law) {
        DonkeyBridge x = new DonkeyBridge();
        for (int i = 0; i < places; i++) {
            x.place(0, 0, i);
        }
        Check.law(x, law);
        return x;
    }

    private static long[] soonest(DonkeyBridge x, int k) {
        return new long[] {x.soonest(k, -1), x.soonest(k, 0), x.soonest(k, 1), x.soonest(k, 2), x.soonest(k, 3)};
    }

    private static void soon(Check c) {
        DonkeyBridge x = road(1, "go 10 a<99");
        c.dueRow("none by 0", soonest(x, 0), -5, -5, -5, -5, -5);
        c.dueRow("leads at once", soonest(x, 1), 1, 1, -5, -5, -5);
        c.dueRow("leads at once, by 4", soonest(x, 4), 1, 1, -5, -5, -5);
        // 10 - 30 backs; 2 stands (26), then 1 stands (22), then 0 stands (18), then 2 goes: 10 - 9
        x = road(1, "go 10 a<99;look 4");
        x.set(0, 30);
        c.dueRow("none by 3", soonest(x, 3), -5, -5, -5, -5, -5);
        c.dueRow("four acts", soonest(x, 4), 4, 2, 1, 0, 2);
        // only behind three hits, of which none goes, fear is above 38: 7 is an act of the search, 6 is none
        x = road(1, "go 70 f>38;not 12 f<39;hit 0;look 0");
        x.set(0, 30);
        x.set(7, 0);
        c.dueRow("hit and hit and hit and go", soonest(x, 4), 4, 7, 7, 7, 0);
        x = road(3, "go 20 a<99;not 40 t=0");
        x.set(12, 1);
        x.row(0);
        c.due("it backs at first", x.hand(1, 12), 0);
        // 3 sits; then 20 - 10 - 15 and 10 for hunger goes, ahead of which 0, 1 (3) and 2 (0) do not
        c.dueRow("just one more than now", soonest(x, 4), 2, 3, 4, -5, -5);
        x = road(3, "go 20 a<99;not 90 t=0");
        x.set(12, 1);
        c.dueRow("sits, then goes", soonest(x, 4), 2, 0, 4, -5, -5);
        c.due("it asks only", x.now(12) * 100 + x.now(14) * 10 + x.now(13), 100);
        c.due("what -2", x.soonest(1, -2), -1);
        c.due("what 4", x.soonest(1, 4), -1);
        c.due("k -1", x.soonest(-1, 0), -2);
        c.due("k 5", x.soonest(5, 0), -2);
        c.due("none ahead of bad", x.soonest(HIGH, LOW), -1);
        x.set(12, 3);
        c.due("over", x.soonest(1, 0), -3);
        c.due("bad ahead of over", x.soonest(5, 0), -2);
    }

    private static void gentle(Check c) {
        DonkeyBridge x = road(2, "go 50 a<99");
        x.set(6, 3);
        c.due("feeds: learnt", x.gentlest(1, -1), 57);
        c.due("feeds", x.gentlest(1, 0), 4);
        c.due("feeds twice: learnt", x.gentlest(2, -1), 51);
        c.due("feeds twice 0", x.gentlest(2, 0), 4);
        c.due("feeds twice 1", x.gentlest(2, 1), 4);
        c.due("then the first as a row: learnt", x.gentlest(4, -1), 51);
        c.due("then the first as a row 2", x.gentlest(4, 2), 0);
        c.due("then the first as a row 3", x.gentlest(4, 3), 0);
        x = road(1, "");
        c.due("none: learnt", x.gentlest(1, -1), -5);
        c.due("none: act", x.gentlest(1, 0), -5);
        // 4 goes behind any that makes fear 8; 0 is the first of those and pays nothing
        c.due("behind one: learnt", x.gentlest(2, -1), 53);
        c.due("behind one 0", x.gentlest(2, 0), 0);
        c.due("behind one 1", x.gentlest(2, 1), 4);
        c.due("it asks only", x.now(0) * 100 + x.now(12) * 10 + x.now(14), 1000);
        x = road(1, "go 5 a<99;lead 0;hit 6");
        x.set(7, 0);
        c.due("just goes by a hit: learnt", x.gentlest(1, -1), 55);
        c.due("just goes by a hit", x.gentlest(1, 0), 7);
        c.dueRow("just goes by a hit", soonest(x, 1), 1, 7, -5, -5, -5);
        c.due("n 0", x.gentlest(0, 0), -2);
        c.due("n 5", x.gentlest(5, 0), -2);
        c.due("bad ahead of none", x.gentlest(0, 9), -2);
        c.due("what -2", x.gentlest(2, -2), -1);
        c.due("what n", x.gentlest(2, 2), -1);
        c.due("what high", x.gentlest(4, HIGH), -1);
        x.set(12, 1);
        c.due("over", x.gentlest(1, 0), -3);
        c.due("none ahead of over", x.gentlest(1, 1), -1);
    }

    private static int why(int kind, int v, int... set) {
        DonkeyBridge x = new DonkeyBridge();
        x.place(0, 0, 0);
        x.place(0, 0, 0);
        x.place(kind, v, 1);
        Check.law(x, "not 9 a<99;hurt 12 a<99;go 1 h=99");
        x.set(12, 2);
        for (int i = 0; i < set.length; i += 2) {
            x.set(set[i], set[i + 1]);
        }
        return x.why();
    }

    private static void reasons(Check c) {
        c.due("fear", why(0, 0), 1);
        c.due("not, of two alike", why(0, 0, 1, 9), 0);
        c.due("not", why(0, 0, 1, 8, 6, 99, 8, 99), 0);
        c.due("fear twice", why(1, 0, 1, 5), 1);
        c.due("fear twice, not enough", why(1, 0, 1, 4), 0);
        c.due("fear less the looks", why(4, 3, 1, 10, 9, 4), 0);
        c.due("fear less fewer looks", why(4, 3, 1, 10, 9, 3), 1);
        c.due("hurt", why(2, 0, 8, 99), 2);
        c.due("hurt of two alike", why(5, 0, 8, 25), 2);
        c.due("wear", why(5, 0, 8, 26), 4);
        c.due("paid", why(3, 9, 6, 11), 3);
        c.due("paid does not count there", why(2, 9, 6, 99), 2);
        c.due("called", why(6, 9, 6, 17), 5);
        c.due("paid of two alike", why(6, 9, 6, 18), 3);
        c.due("called counts there alone", why(3, 9), 1);
        c.due("sits", why(2, 0, 13, 1), 6);
        c.due("fear, sitting", why(0, 0, 13, 1, 1, 15), 1);
        DonkeyBridge x = road(1, "");
        x.set(0, 0);
        c.due("nothing at all", x.why(), 0);
        c.due("it would go", road(1, "go 11 a=0").why(), -5);
        c.due("just not", road(1, "go 10 a=0").why(), 1);
        c.due("over", road(0, "").why(), -5);
    }

    private static void wait(Check c, String law, int waits, int round, int... set) {
        DonkeyBridge x = road(3, law);
        for (int i = 0; i < set.length; i += 2) {
            x.set(set[i], set[i + 1]);
        }
        long before = x.now(15) * 1000 + x.now(8) * 100 + x.now(12) * 10 + x.now(14);
        c.due("waits " + law, x.waits(), waits);
        c.due("round " + law, x.round(), round);
        c.due("asked only " + law, x.now(15) * 1000 + x.now(8) * 100 + x.now(12) * 10 + x.now(14), before);
    }

    private static void waiting(Check c) {
        wait(c, "go 1 a<99", 6, 0);
        wait(c, "go 1 a<99;ford 6", 6, 0);
        wait(c, "go 1 a<99;ford 5", 6, 1);
        wait(c, "go 1 a<99;ford 0", 6, 1);
        wait(c, "go 11 a<99;ford 0", 1, 0);
        wait(c, "go 9 a<99;ford 1", 2, 1);
        wait(c, "ford 99", -5, 1);
        wait(c, "go 99 t=59;ford 59", 60, 1);
        wait(c, "go 99 t=59;ford 60", 60, 0);
        wait(c, "not 60 w>0;go 99 w=0;ford 60", 60, 0, 8, 59);
        wait(c, "not 60 w>0;go 99 w=0;ford 60", -5, 1, 8, 60);
        wait(c, "go 20 a<99;not 40 t=0", 3, 0, 12, 1);
        DonkeyBridge x = road(1, "");
        x.go(6);
        c.due("waits when over", x.waits(), -3);
        c.due("round when over", x.round(), -3);
    }

    private static void load(Check c, String law, int left, int right, int due) {
        DonkeyBridge x = road(1, law);
        x.set(10, left);
        x.set(11, right);
        c.due("shift " + law + " of " + left + " and " + right, x.shiftLoad(), due);
        c.due("left as it was", x.now(10), left);
        c.due("right as it was", x.now(11), right);
    }

    private static void loads(Check c) {
        load(c, "hurt 5 l>3", 10, 0, 4);
        load(c, "hurt 5 l>3", 0, 10, -4);
        load(c, "hurt 5 l>3", 13, 10, 0);
        load(c, "hurt 5 l>3;hurt 5 l>0", 0, 10, -5);
        load(c, "hurt 5 l=0", 20, 20, 1);
        load(c, "hurt 5 l<3", 20, 20, 2);
        load(c, "hurt 5 l<9", 21, 20, -4);
        load(c, "hurt 5 l<9", 20, 21, 4);
        load(c, "hurt 5 l<98", 99, 0, 0);
        load(c, "hurt 5 l<99", 98, 1, -1);
        load(c, "hurt 5 l<99", 1, 98, 1);
        load(c, "hurt 5 l<99", 50, 49, -49);
        load(c, "hurt 5 l=1", 1, 0, 0);
        load(c, "hurt 5 l=0", 0, 0, 0);
        load(c, "hurt 5 l=0", 99, 99, 0);
        load(c, "hurt 5 l>90", 2, 99, -4);
        load(c, "hurt 5 l>90", 99, 2, 4);
        load(c, "hurt 5 s>0", 30, 3, 0);
        load(c, "hurt 5 s>98&l>9", 99, 1, 45);
        load(c, "hurt 8 l>5&f=10;hurt 9 l>1&f=9", 30, 0, 13);
        DonkeyBridge x = road(0, "hurt 5 l>3");
        x.set(10, 9);
        c.due("over", x.shiftLoad(), -100003);
    }

    public static void main(String[] args) {
        Check c = new Check("SearchTest");
        soon(c);
        gentle(c);
        reasons(c);
        waiting(c);
        loads(c);
        c.end();
    }
}
