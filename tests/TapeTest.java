/** Promises 27 and 34 to 37: judge, tape, item, read, shift. */
public final class TapeTest {
    private static final int LOW = Integer.MIN_VALUE, HIGH = Integer.MAX_VALUE;
    private static final long NO = Long.MIN_VALUE;

    private static void bytes(DonkeyBridge x, int tape, int... items) {
        x.tape(tape, 0, items.length);
        for (int i = 0; i < items.length; i++) {
            x.item(tape, i, items[i]);
        }
    }

    private static void judged(Check c) {
        DonkeyBridge x = new DonkeyBridge();
        x.place(0, 0, 0);
        x.place(0, 0, 1);
        c.due("no acts, nothing told", x.judge(0, 0), -5);
        c.due("no acts, place -1", x.judge(0, -1), -5);
        // stands, goes, round, over, over: 0 1 2 2 2
        Check.acts(x, 0, 4, 6, 0, 6);
        c.due("nothing told", x.judge(0, 0), 100);
        c.due("tape -1", x.judge(-1, 0), -1);
        c.due("tape 6", x.judge(6, 0), -1);
        bytes(x, 1, 0, 1, 2, 2, 2);
        c.due("all as told", x.judge(1, 0), -5);
        x.set(0, 1);
        Check.law(x, "go 2 a<99");
        bytes(x, 1, 1);
        c.due("it just goes", x.judge(1, 0), 101);
        x.set(0, 10);
        Check.law(x, "go 0 a<99");
        bytes(x, 1, 0, 1, 2, 2, 2);
        c.due("place -1", x.judge(1, -1), 100);
        c.due("place low", x.judge(1, LOW), 100);
        c.due("place at the end", x.judge(1, 5), 100);
        c.due("place high", x.judge(1, HIGH), 100);
        c.due("from 1", x.judge(1, 1), 0);
        bytes(x, 1, 0, 1, 2, 2, 1);
        c.due("the last otherwise", x.judge(1, 0), 4);
        bytes(x, 1, 0, 0, 2, 1, 1);
        c.due("the first otherwise", x.judge(1, 0), 1);
        bytes(x, 1, 0, 1, 2);
        c.due("the row ends", x.judge(1, 0), 103);
        bytes(x, 1, 9, 9, 0, 1, 2, 2, 2, 9);
        c.due("from 2", x.judge(1, 2), -5);
        c.due("from 0", x.judge(1, 0), 0);
        bytes(x, 1);
        c.due("a row of none", x.judge(1, 0), 100);
        x.tape(2, 1, 5);
        c.due("shorts", x.judge(2, 0), -12);
        x.tape(2, 2, 5);
        c.due("ints", x.judge(2, -1), -12);
        x.tape(2, 3, 0);
        c.due("longs", x.judge(2, 0), -12);
        x.tape(2, 4, 5);
        c.due("booleans", x.judge(2, 0), -12);
        x.row(-1);
        c.due("booleans, no acts", x.judge(2, 0), -12);
        c.due("bytes, no acts", x.judge(1, 0), -5);
        c.due("it asks only", x.now(12) * 10 + x.now(14), 0);
    }

    private static void kept(Check c, int sort, long v, long due) {
        DonkeyBridge x = new DonkeyBridge();
        x.tape(3, sort, 2);
        c.due("item of sort " + sort + " " + v, x.item(3, 1, v), 1);
        c.due("read of sort " + sort + " " + v, x.read(3, 1), due);
        c.due("beside it", x.read(3, 0), 0);
    }

    private static void items(Check c) {
        kept(c, 0, 127, 127);
        kept(c, 0, 128, -128);
        kept(c, 0, 256, 0);
        kept(c, 0, -129, 127);
        kept(c, 1, 32767, 32767);
        kept(c, 1, 32768, -32768);
        kept(c, 1, 65536, 0);
        kept(c, 2, 2147483647L, 2147483647L);
        kept(c, 2, 2147483648L, -2147483648L);
        kept(c, 2, 4294967296L, 0);
        kept(c, 3, Long.MAX_VALUE, Long.MAX_VALUE);
        kept(c, 3, -1, -1);
        kept(c, 4, 0, 0);
        kept(c, 4, 1, 1);
        kept(c, 4, 256, 1);
        kept(c, 4, 1L << 40, 1);
        kept(c, 4, -1, 1);
        DonkeyBridge x = new DonkeyBridge();
        c.due("item of tape -1", x.item(-1, 0, 0), -1);
        c.due("item of tape 6", x.item(6, 0, 0), -1);
        c.due("item of nothing", x.item(0, 0, 0), -11);
        c.due("item of nothing, no place", x.item(0, -1, 0), -11);
        x.tape(0, 2, 3);
        c.due("item -1", x.item(0, -1, 0), -13);
        c.due("item 3", x.item(0, 3, 0), -13);
        c.due("item high", x.item(0, HIGH, 0), -13);
        c.due("item 2", x.item(0, 2, 8), 1);
        c.due("read 2", x.read(0, 2), 8);
        c.due("read -1", x.read(0, -1), NO);
        c.due("read 3", x.read(0, 3), NO);
        c.due("read of nothing", x.read(1, 0), NO);
        c.due("read of tape -1", x.read(-1, 0), NO);
        c.due("read of tape 6", x.read(6, 0), NO);
    }

    private static void tapes(Check c) {
        DonkeyBridge x = new DonkeyBridge();
        c.due("tape -1", x.tape(-1, 0, 1), -1);
        c.due("tape 6", x.tape(6, 0, 1), -1);
        c.due("none ahead of bad", x.tape(6, 9, 99), -1);
        c.due("sort -2", x.tape(0, -2, 1), -2);
        c.due("sort 5", x.tape(0, 5, 1), -2);
        c.due("n 61", x.tape(0, 0, 61), -2);
        c.due("n -1", x.tape(0, 0, -1), -14);
        c.due("n low", x.tape(0, 0, LOW), -14);
        c.due("bad ahead of size", x.tape(0, 5, -1), -2);
        c.due("nothing is there still", x.item(0, 0, 1), -11);
        c.due("n 60", x.tape(0, 3, 60), 1);
        c.due("item 59", x.item(0, 59, 7), 1);
        c.due("refused", x.tape(0, 3, 61), -2);
        c.due("item 59 stays", x.read(0, 59), 7);
        c.due("n 60 again", x.tape(0, 3, 60), 1);
        c.due("all 0", x.read(0, 59), 0);
        c.due("n 0", x.tape(0, 3, 0), 1);
        c.due("no place", x.item(0, 0, 1), -13);
        c.due("nothing, n 99", x.tape(0, -1, 99), 1);
        c.due("nothing, n -9", x.tape(0, -1, -9), 1);
        c.due("nothing is there", x.item(0, 0, 1), -11);
        c.due("nothing is there to read", x.read(0, 0), NO);
    }

    private static DonkeyBridge told() {
        DonkeyBridge x = new DonkeyBridge();
        bytes(x, 0, 1, 2, 3, 4, 5);
        bytes(x, 1, 6, 7, 8);
        x.tape(2, 1, 3);
        return x;
    }

    private static long[] all(DonkeyBridge x, int tape, int n) {
        long[] all = new long[n];
        for (int i = 0; i < n; i++) {
            all[i] = x.read(tape, i);
        }
        return all;
    }

    private static void shifts(Check c) {
        DonkeyBridge x = told();
        c.due("to the right", x.shift(0, 0, 0, 1, 4), 4);
        c.dueRow("to the right", all(x, 0, 5), 1, 1, 2, 3, 4);
        x = told();
        c.due("to the left", x.shift(0, 1, 0, 0, 4), 4);
        c.dueRow("to the left", all(x, 0, 5), 2, 3, 4, 5, 5);
        x = told();
        c.due("to another", x.shift(0, 2, 1, 1, 2), 2);
        c.dueRow("to another", all(x, 1, 3), 6, 3, 4);
        c.dueRow("from the one", all(x, 0, 5), 1, 2, 3, 4, 5);
        c.due("all of it", x.shift(1, 0, 0, 2, 3), 3);
        c.dueRow("all of it", all(x, 0, 5), 1, 2, 6, 3, 4);
        c.due("none at the ends", x.shift(0, 5, 1, 3, 0), 0);
        c.due("tape -1", x.shift(-1, 0, 0, 0, 1), -1);
        c.due("tape 6", x.shift(6, 0, 0, 0, 1), -1);
        c.due("other -1", x.shift(0, 0, -1, 0, 1), -1);
        c.due("other 6", x.shift(5, 0, 6, 0, 1), -1);
        c.due("from nothing", x.shift(3, 0, 0, 0, 1), -11);
        c.due("to nothing", x.shift(0, -1, 3, 0, 1), -11);
        c.due("unlike sorts", x.shift(0, 0, 2, 0, 1), -12);
        c.due("unlike sorts ahead of places", x.shift(2, -1, 0, 0, 1), -12);
        c.due("n -1", x.shift(0, 0, 1, 0, -1), -13);
        c.due("n low", x.shift(0, 0, 1, 0, LOW), -13);
        c.due("n high", x.shift(0, 1, 1, 1, HIGH), -13);
        c.due("i -1", x.shift(0, -1, 1, 0, 1), -13);
        c.due("j -1", x.shift(0, 0, 1, -1, 1), -13);
        c.due("i high", x.shift(0, HIGH, 1, 0, 1), -13);
        c.due("j high", x.shift(0, 0, 1, HIGH, 1), -13);
        c.due("beyond the one's end", x.shift(0, 3, 1, 0, 3), -13);
        c.due("beyond the other's end", x.shift(0, 0, 1, 2, 2), -13);
        c.due("i beyond, n 0", x.shift(0, 6, 1, 0, 0), -13);
        c.due("j beyond, n 0", x.shift(0, 0, 1, 4, 0), -13);
        c.dueRow("all as it was", all(x, 0, 5), 1, 2, 6, 3, 4);
        c.dueRow("all as it was there", all(x, 1, 3), 6, 3, 4);
        x.tape(4, 3, 2);
        x.tape(5, 3, 2);
        x.item(4, 1, 9999999999L);
        c.due("longs", x.shift(4, 0, 5, 0, 2), 2);
        c.due("longs", x.read(5, 1), 9999999999L);
    }

    public static void main(String[] args) {
        Check c = new Check("TapeTest");
        judged(c);
        items(c);
        tapes(c);
        shifts(c);
        c.end();
    }
}
