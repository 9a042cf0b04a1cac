/** Promises 20 to 26: wander, sure, days, beast, string, film, off. */
public final class WanderTest {
    private static final int LOW = Integer.MIN_VALUE, HIGH = Integer.MAX_VALUE;

    private static DonkeyBridge road(int kind, int v, String law, int... acts) {
        DonkeyBridge x = new DonkeyBridge();
        x.place(kind, v, 0);
        Check.law(x, law);
        Check.acts(x, acts);
        return x;
    }

    private static void odds(Check c) {
        DonkeyBridge x = new DonkeyBridge();
        c.due("wander -1", x.wander(-1), -2);
        c.due("wander 11", x.wander(11), -2);
        c.due("0 at first", x.wander(10), 0);
        c.due("then 10", x.wander(3), 10);
        c.due("then 3", x.wander(HIGH), -2);
        c.due("still 3", x.wander(0), 3);
    }

    private static void sure(Check c, DonkeyBridge x, int n, long above, long below) {
        c.due("sure " + n + " above", x.sure(n, 0), above);
        c.due("sure " + n + " below", x.sure(n, 1), below);
    }

    private static void likely(Check c) {
        // 15 - 10 goes; wandering it stands, and fears 2 less: so thrice; then 15 - 4 - 10 goes
        DonkeyBridge x = road(0, 0, "go 15 a<99", 0, 0, 0, 0, 0, 0, 0);
        sure(c, x, 1, 1, 1);
        x.wander(3);
        sure(c, x, 1, 7, 10);
        sure(c, x, 2, 91, 100);
        sure(c, x, 3, 973, 1000);
        sure(c, x, 4, 1, 1);
        x.wander(5);
        sure(c, x, 1, 1, 2);
        sure(c, x, 2, 3, 4);
        sure(c, x, 6, 1, 1);
        x.wander(8);
        sure(c, x, 1, 1, 5);
        x.wander(10);
        sure(c, x, 1, 0, 1);
        sure(c, x, 3, 0, 1);
        c.due("would does not wander", x.would(0), 1);
        c.due("hand does not wander", x.hand(1, 12), 1);
        c.due("go does not wander", x.go(0), 1);
        sure(c, x, 3, 0, 1);
        c.due("n 0", x.sure(0, 0), Long.MIN_VALUE);
        c.due("n 7", x.sure(7, 0), Long.MIN_VALUE);
        c.due("n low", x.sure(LOW, 0), Long.MIN_VALUE);
        c.due("part -1", x.sure(1, -1), Long.MIN_VALUE);
        c.due("part 2", x.sure(1, 2), Long.MIN_VALUE);
        Check.acts(x, 0);
        c.due("more than the row", x.sure(2, 0), Long.MIN_VALUE);
        sure(c, x, 1, 0, 1);
        x = road(0, 0, "", 6);
        x.wander(10);
        sure(c, x, 1, 1, 1);
        // at 1 of 2: back by wandering (20 - 30 and less), and then not at 2
        x = new DonkeyBridge();
        x.place(0, 0, 0);
        x.place(0, 0, 1);
        Check.law(x, "go 4 a=1;go 10 a=1;go 30 a=0");
        x.set(12, 1);
        x.set(1, 20);
        x.set(0, 0);
        Check.acts(x, 4, 7);
        // 4: 14 - 20 + 10 goes; wandering stands at -6 (18, hunger 17); 7: 14 - 18 + 5 goes, wandering stands
        x.wander(1);
        sure(c, x, 1, 9, 10);
        sure(c, x, 2, 99, 100);
        // all six half minutes count: 64 ways
        x = road(0, 0, "go 11 a<99;look 0", 0, 0, 0, 0, 0, 0);
        x.wander(1);
        sure(c, x, 6, 999999, 1000000);
        x.wander(9);
        sure(c, x, 6, 468559, 1000000);
    }

    private static void days(Check c, DonkeyBridge x, int n, int learnt, int paid, int at) {
        c.due("days " + n + " learnt", x.days(n, 0), learnt);
        c.due("days " + n + " paid", x.days(n, 1), paid);
        c.due("days " + n + " at", x.days(n, 2), at);
    }

    private static void taught(Check c) {
        DonkeyBridge x = road(0, 0, "", 4);
        days(c, x, 0, 60, 0, 0);
        days(c, x, 1, 63, 5, 0);
        days(c, x, 2, 66, 10, 0);
        days(c, x, 3, 60, 9, 1);
        days(c, x, 4, 58, 8, 1);
        x.set(12, 1);
        x.set(6, 20);
        days(c, x, 0, 80, 20, 1);
        days(c, x, 3, 80, 29, 1);
        x.row(-1);
        days(c, x, 1, 80, 20, 0);
        days(c, x, 99, 80, 20, 0);
        c.due("it asks only", x.now(12) * 100 + x.now(6), 120);
        x = road(4, 9, "", 0);
        x.set(9, 2);
        days(c, x, 1, 60, 0, 0);
        x = road(0, 0, "", 0);
        x.set(13, 1);
        days(c, x, 1, 58, 0, 0);
        x = road(0, 0, "go 99 t=1", 0);
        days(c, x, 1, 58, 0, 0);
        days(c, x, 2, 53, 0, 1);
        days(c, x, 3, 51, 0, 0);
        x = road(0, 0, "", 6, 6);
        days(c, x, 2, 80, 20, 1);
        days(c, x, 99, 159, 99, 1);
        c.due("days n -1", x.days(-1, 0), -2);
        c.due("days n 100", x.days(100, 0), -2);
        c.due("days what -1", x.days(1, -1), -1);
        c.due("days what 3", x.days(1, 3), -1);
        c.due("none ahead of bad", x.days(100, 3), -1);
        days(c, new DonkeyBridge(), 99, 60, 0, 0);
    }

    private static void beasts(Check c) {
        DonkeyBridge x = road(0, 0, "go 40 a<99");
        c.due("string: none is told", x.string(0), -5);
        c.due("string: no more", x.string(1), -5);
        c.due("string: not ahead", x.string(2), -5);
        c.due("beast -2", x.beast(-2), -2);
        c.due("beast 100", x.beast(100), -2);
        c.due("beast 99", x.beast(99), 1);
        c.due("beast 4", x.beast(4), 2);
        c.due("beast 70", x.beast(70), 3);
        c.due("beast 4 again", x.beast(4), 4);
        c.due("beast full", x.beast(0), -4);
        c.due("bad ahead of full", x.beast(100), -2);
        c.due("four", x.count(4), 4);
        x.set(0, 47);
        c.due("which", x.string(0), 1);
        c.due("43 by 10", x.string(1), 4);
        c.due("40 - 47 + 3 + 4", x.string(2), 0);
        x.set(0, 46);
        c.due("40 - 46 + 3 + 4", x.string(2), 1);
        x.set(0, 43);
        c.due("39 by 10", x.string(1), 3);
        x.set(0, 44);
        c.due("40 by 10", x.string(1), 4);
        x.set(0, 3);
        c.due("not above", x.string(1), 0);
        c.due("what -1", x.string(-1), -1);
        c.due("what 3", x.string(3), -1);
        c.due("empty then", x.beast(-1), 0);
        c.due("none", x.string(0), -5);
        x.beast(4);
        x.beast(9);
        c.due("the first is the least", x.string(0), 0);
        x.beast(-1);
        x.beast(0);
        x.set(0, 99);
        Check.law(x, "lead 91");
        c.due("9 more", x.string(1), 9);
        c.due("91 + 9 - 99", x.string(2), 1);
        Check.law(x, "lead 90");
        c.due("90 + 9 - 99", x.string(2), 0);
        x.set(12, 1);
        c.due("over", x.string(0), -3);
        c.due("none ahead of over", x.string(3), -1);
        x.beast(-1);
        c.due("over ahead of none told", x.string(1), -3);
        // the thing is that of the place
        x = new DonkeyBridge();
        x.place(0, 0, 3);
        x.beast(10);
        x.set(3, 60);
        x.set(0, 90);
        c.due("of the thing there", x.string(1), 5);
    }

    private static int film(DonkeyBridge x, int... seen) {
        x.film(-1);
        for (int s : seen) {
            x.film(s);
        }
        return x.off();
    }

    private static void films(Check c) {
        DonkeyBridge x = new DonkeyBridge();
        c.due("film -2", x.film(-2), -1);
        c.due("film 4", x.film(4), -1);
        for (int i = 1; i <= 12; i++) {
            c.due("film " + i, x.film(i % 4), i);
        }
        c.due("film full", x.film(0), -4);
        c.due("none ahead of full", x.film(4), -1);
        c.due("twelve", x.count(3), 12);
        c.due("no acts", x.off(), -5);
        c.due("film empty", x.film(-1), 0);
        x.place(0, 0, 0);
        x.place(0, 0, 1);
        // 10 stands, 8; set to sit by 7s fear: 0 stands, 4 goes, 6 goes, over
        Check.acts(x, 0, 4, 6, 0, 0);
        c.due("no film", x.off(), -5);
        c.due("as it goes", film(x, 0, 1, 1), -5);
        c.due("the first otherwise", film(x, 1, 1, 1), 0);
        c.due("the second otherwise", film(x, 0, 0, 1), 1);
        c.due("with 6 it does 1", film(x, 0, 1, 0), 2);
        c.due("over: otherwise", film(x, 0, 1, 1, 0), 3);
        c.due("over: otherwise too", film(x, 0, 1, 1, 1), 3);
        c.due("over: first of two", film(x, 0, 1, 1, 3, 3), 3);
        c.due("the shorter film counts", film(x, 0, 1), -5);
        Check.acts(x, 0);
        c.due("the shorter row counts", film(x, 0, 3, 3, 3), -5);
        x.set(0, 30);
        c.due("backs", film(x, 2), -5);
        x.set(0, 60);
        c.due("sits", film(x, 3), -5);
        x.set(0, 10);
        Check.law(x, "go 11 a<99");
        c.due("it just goes", film(x, 1), -5);
        Check.law(x, "go 10 a<99");
        c.due("it just stands", film(x, 0), -5);
        c.due("it asks only", x.now(13) * 10 + x.now(14), 0);
    }

    public static void main(String[] args) {
        Check c = new Check("WanderTest");
        odds(c);
        likely(c);
        taught(c);
        beasts(c);
        films(c);
        c.end();
    }
}
