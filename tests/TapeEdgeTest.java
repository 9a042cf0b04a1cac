/** Terms 4 and promises 27 and 34 to 37: each sentence that names a bound, what is cut, what is empty or full. */
public final class TapeEdgeTest {
    private static final int LOW = Integer.MIN_VALUE, HIGH = Integer.MAX_VALUE;
    private static final long NO = Long.MIN_VALUE, MOST = Long.MAX_VALUE;

    private static DonkeyBridge holding(int sort, long... items) {
        return told(new DonkeyBridge(), 0, sort, items);
    }

    private static DonkeyBridge told(DonkeyBridge x, int tape, int sort, long... items) {
        x.tape(tape, sort, items.length);
        for (int i = 0; i < items.length; i++) {
            x.item(tape, i, items[i]);
        }
        return x;
    }

    private static long[] all(DonkeyBridge x, int tape, int n) {
        long[] all = new long[n];
        for (int i = 0; i < n; i++) {
            all[i] = x.read(tape, i);
        }
        return all;
    }

    private static void tapes(Check c) {
        c.about("TAPES 0 .. 5 hold nothing (at first)");
        for (int tape = 0; tape <= 5; tape++) {
            DonkeyBridge x = new DonkeyBridge();
            c.due("item of " + tape, x.item(tape, 0, 1), -11);
            c.due("read of " + tape, x.read(tape, 0), NO);
            c.due("shift of " + tape, x.shift(tape, 0, tape, 0, 0), -11);
            c.due("it becomes a row", x.tape(tape, 0, 1), 1);
            for (int other = 0; other <= 5; other++) {
                c.due(tape + " became a row, " + other + " did not", x.item(other, 0, 1), other == tape ? 1 : -11);
            }
        }
        c.due("tape -1", new DonkeyBridge().tape(-1, 0, 1), -1);
        c.due("tape 6", new DonkeyBridge().tape(6, 0, 1), -1);

        c.about("a row of n (0 .. 60) of a sort, all 0");
        for (int sort = 0; sort <= 4; sort++) {
            for (int n : new int[] {0, 1, 59, 60}) {
                DonkeyBridge x = new DonkeyBridge();
                c.due("sort " + sort + " of " + n, x.tape(0, sort, n), 1);
                for (int i = 0; i < n; i++) {
                    c.due("item " + i + " of " + n, x.read(0, i), 0);
                }
                c.due("item behind the last of " + n, x.read(0, n), NO);
                c.due("item ahead of the first of " + n, x.read(0, -1), NO);
                c.due("the last becomes 1", x.item(0, n - 1, 1), n > 0 ? 1 : -13);
                c.due("the one behind the last", x.item(0, n, 1), -13);
                c.due("the one ahead of the first", x.item(0, -1, 1), -13);
            }
            DonkeyBridge x = holding(sort, 1, 1, 1);
            c.due("of 61", x.tape(0, sort, 61), -2);
            c.due("of -1", x.tape(0, sort, -1), -14);
            c.dueRow("as it was", all(x, 0, 4), 1, 1, 1, NO);
            c.due("anew", x.tape(0, sort, 3), 1);
            c.dueRow("all 0 again", all(x, 0, 4), 0, 0, 0, NO);
            c.due("longer", x.tape(0, sort, 5), 1);
            c.dueRow("all 0 still", all(x, 0, 6), 0, 0, 0, 0, 0, NO);
            told(x, 0, sort, 1, 1, 1, 1, 1);
            c.due("shorter", x.tape(0, sort, 2), 1);
            c.dueRow("no more than two", all(x, 0, 3), 0, 0, NO);
            c.due("longer again", x.tape(0, sort, 5), 1);
            c.dueRow("nothing of what was", all(x, 0, 5), 0, 0, 0, 0, 0);
        }
        c.about("or holds nothing (sort -1: n does not matter)");
        for (int n : new int[] {LOW, -1, 0, 1, 60, 61, HIGH}) {
            DonkeyBridge x = holding(0, 7, 8);
            c.due("n " + n, x.tape(0, -1, n), 1);
            c.due("item", x.item(0, 0, 1), -11);
            c.due("read", x.read(0, 0), NO);
            c.due("nothing still", x.tape(0, -1, n), 1);
            c.due("a row again", x.tape(0, 1, 2), 1);
            c.dueRow("all 0", all(x, 0, 3), 0, 0, NO);
        }
        c.about("tape: NONE: tape; BAD: sort, n above 60; SIZE");
        DonkeyBridge x = new DonkeyBridge();
        c.due("tape and sort", x.tape(6, 5, 61), -1);
        c.due("tape and size", x.tape(-1, 0, -1), -1);
        c.due("sort -2", x.tape(0, -2, 0), -2);
        c.due("sort 5", x.tape(0, 5, 0), -2);
        c.due("sort and size", x.tape(0, 5, -1), -2);
        c.due("sort -2 and size", x.tape(0, -2, -1), -2);
        c.due("size", x.tape(0, 4, -1), -14);
        c.due("it holds nothing still", x.item(0, 0, 0), -11);
    }

    private static void kept(Check c, int sort, long v, long due) {
        DonkeyBridge x = holding(sort, 0, 0, 0);
        c.due("sort " + sort + " item becomes " + v, x.item(0, 1, v), 1);
        c.dueRow("sort " + sort + " of " + v, all(x, 0, 3), 0, due, 0);
    }

    private static void items(Check c) {
        c.about("Item i becomes v (its lowest bits, as many as an item has): bytes");
        long[][] bytes = {{0, 0}, {1, 1}, {127, 127}, {128, -128}, {255, -1}, {256, 0}, {257, 1}, {-1, -1}, {-128, -128},
            {-129, 127}, {-256, 0}, {MOST, -1}, {NO, 0}, {1L << 32, 0}, {(1L << 32) + 130, -126}};
        for (long[] b : bytes) {
            kept(c, 0, b[0], b[1]);
        }
        c.about("Item i becomes v (its lowest bits, as many as an item has): shorts");
        long[][] shorts = {{0, 0}, {32767, 32767}, {32768, -32768}, {65535, -1}, {65536, 0}, {-32768, -32768}, {-32769, 32767},
            {MOST, -1}, {NO, 0}, {1L << 40, 0}, {200, 200}};
        for (long[] s : shorts) {
            kept(c, 1, s[0], s[1]);
        }
        c.about("Item i becomes v (its lowest bits, as many as an item has): ints");
        long[][] ints = {{0, 0}, {HIGH, HIGH}, {HIGH + 1L, LOW}, {4294967295L, -1}, {4294967296L, 0}, {LOW, LOW}, {LOW - 1L, HIGH},
            {MOST, -1}, {NO, 0}, {70000, 70000}};
        for (long[] i : ints) {
            kept(c, 2, i[0], i[1]);
        }
        c.about("Item i becomes v: longs");
        for (long v : new long[] {0, 1, -1, MOST, NO, NO + 1, 1L << 32, -(1L << 32)}) {
            kept(c, 3, v, v);
        }
        c.about("(booleans: whether v is not 0)");
        long[][] booleans = {{0, 0}, {1, 1}, {2, 1}, {-1, 1}, {256, 1}, {65536, 1}, {1L << 32, 1}, {NO, 1}, {MOST, 1}};
        for (long[] b : booleans) {
            kept(c, 4, b[0], b[1]);
        }
        c.about("item: NONE; NOTHING; PLACE");
        DonkeyBridge x = holding(2, 5, 6, 7);
        c.due("tape -1", x.item(-1, -1, 9), -1);
        c.due("tape 6", x.item(6, 0, 9), -1);
        c.due("nothing, and no place", x.item(1, -1, 9), -11);
        c.due("place -1", x.item(0, -1, 9), -13);
        c.due("place 3", x.item(0, 3, 9), -13);
        c.due("place low", x.item(0, LOW, 9), -13);
        c.due("place high", x.item(0, HIGH, 9), -13);
        c.dueRow("as it was", all(x, 0, 3), 5, 6, 7);
        c.due("place 0", x.item(0, 0, 9), 1);
        c.due("place 2", x.item(0, 2, 9), 1);
        c.dueRow("these two", all(x, 0, 3), 9, 6, 9);
        c.about("read: NO: no such TAPE, nothing there, no such place");
        c.due("tape -1", x.read(-1, 0), NO);
        c.due("tape 6", x.read(6, 0), NO);
        c.due("nothing there", x.read(5, 0), NO);
        c.due("place -1", x.read(0, -1), NO);
        c.due("place 3", x.read(0, 3), NO);
        c.due("place low", x.read(0, LOW), NO);
        c.due("place high", x.read(0, HIGH), NO);
    }

    private static void shifts(Check c) {
        c.about("n items come to another one (or the same), as they all were before");
        for (int i = 0; i <= 5; i++) {
            for (int j = 0; j <= 5; j++) {
                for (int n = 0; n <= 6; n++) {
                    shift(c, i, j, n);
                }
            }
        }
        c.about("shift: of a row of 60, whole");
        DonkeyBridge x = new DonkeyBridge();
        x.tape(1, 3, 60);
        x.tape(4, 3, 60);
        x.item(1, 0, 8);
        x.item(1, 59, 9);
        c.due("whole", x.shift(1, 0, 4, 0, 60), 60);
        c.due("the first", x.read(4, 0), 8);
        c.due("the last", x.read(4, 59), 9);
        c.due("one beyond", x.shift(1, 0, 4, 0, 61), -13);
        c.due("59 to the right in itself", x.shift(1, 0, 1, 1, 59), 59);
        c.due("the second", x.read(1, 1), 8);
        c.due("the last is what was ahead of it", x.read(1, 59), 0);
        c.due("59 to the left in itself", x.shift(4, 1, 4, 0, 59), 59);
        c.due("the last stays", x.read(4, 59), 9);
        c.due("the one ahead of it", x.read(4, 58), 9);
        c.about("shift: of rows of none");
        x = new DonkeyBridge();
        x.tape(0, 1, 0);
        x.tape(1, 1, 0);
        c.due("none", x.shift(0, 0, 1, 0, 0), 0);
        c.due("one", x.shift(0, 0, 1, 0, 1), -13);
        c.due("from 1", x.shift(0, 1, 1, 0, 0), -13);
        c.due("to 1", x.shift(0, 0, 1, 1, 0), -13);
        c.about("CAST: of unlike sorts; each sort to each");
        for (int sort = 0; sort <= 4; sort++) {
            for (int other = 0; other <= 4; other++) {
                x = told(holding(sort, 1, 0, 1), 5, other, 0, 0, 0);
                c.due(sort + " to " + other, x.shift(0, 0, 5, 0, 3), sort == other ? 3 : -12);
                long due = sort == other ? 1 : 0;
                c.dueRow(sort + " to " + other, all(x, 5, 3), due, 0, due);
            }
        }
        c.about("shift: NONE: tapes; NOTHING; CAST; PLACE, in this order");
        x = told(told(holding(0, 1, 2, 3), 1, 1, 4, 5), 2, 0, 6);
        c.due("the one, and nothing", x.shift(-1, 0, 5, 0, 0), -1);
        c.due("the other, and nothing", x.shift(5, 0, 6, 0, 0), -1);
        c.due("nothing, and place", x.shift(5, -1, 0, -1, -1), -11);
        c.due("to nothing, and place", x.shift(0, -1, 5, -1, -1), -11);
        c.due("cast, and place", x.shift(0, -1, 1, -1, -1), -12);
        c.due("place", x.shift(0, 0, 2, 0, 2), -13);
        c.dueRow("as it was", all(x, 0, 4), 1, 2, 3, NO);
        c.dueRow("as it was", all(x, 2, 2), 6, NO);
    }

    private static void shift(Check c, int i, int j, int n) {
        String call = "shift of " + n + " from " + i + " to " + j;
        long[] before = {1, 2, 3, 4, 5};
        boolean fits = i + n <= 5 && j + n <= 5;
        DonkeyBridge x = holding(0, before);
        c.due(call + " in itself", x.shift(0, i, 0, j, n), fits ? n : -13);
        long[] due = before.clone();
        for (int k = 0; k < n && fits; k++) {
            due[j + k] = before[i + k];
        }
        c.dueRow(call + " in itself", all(x, 0, 5), due);
        x = told(holding(0, before), 1, 0, 11, 12, 13, 14, 15);
        c.due(call, x.shift(0, i, 1, j, n), fits ? n : -13);
        long[] there = {11, 12, 13, 14, 15};
        for (int k = 0; k < n && fits; k++) {
            there[j + k] = before[i + k];
        }
        c.dueRow(call, all(x, 1, 5), there);
        c.dueRow(call + ", from where", all(x, 0, 5), before);
    }

    /** It stands, and goes, and goes round to the end: AT is 0, 1, 2 behind the three acts, and 2 behind a fourth. */
    private static DonkeyBridge going(int... acts) {
        DonkeyBridge x = Check.road("go 9 a=0", 0, 0, 0, 0, 0, 0);
        Check.acts(x, acts);
        return x;
    }

    private static void judged(Check c) {
        c.about("JUDGED: the first (from 0) that is otherwise");
        c.due("none otherwise", told(going(0, 0, 6, 0), 0, 0, 0, 1, 2, 2).judge(0, 0), -5);
        long[] as = {0, 1, 2, 2};
        for (int i = 0; i < 4; i++) {
            for (int by = -1; by <= 1; by += 2) {
                long[] items = as.clone();
                items[i] += by;
                items[3] += i < 3 ? by : 0;
                c.due("otherwise by " + by + " behind " + i, told(going(0, 0, 6, 0), 0, 0, items).judge(0, 0), i);
            }
        }
        c.due("-128 is not 0", told(going(0), 0, 0, -128).judge(0, 0), 0);
        c.about("JUDGED against how it goes: GOES above 0, STANDS, BACKS below -14, SITS below -39");
        int[] drives = {1, 0, -14, -15, -39, -40};
        int[] then = {2, 1, 1, 0, 0, 1};
        for (int k = 0; k < drives.length; k++) {
            String law = drives[k] >= 0 ? "go " + drives[k] + " a<9" : "not " + -drives[k] + " a<9";
            DonkeyBridge x = Check.with(Check.road(law, 0, 0, 0, 0, 0, 0), 0, 0, 12, 1);
            Check.acts(x, 0);
            for (int at = 0; at <= 3; at++) {
                c.due("AT " + at + " with " + drives[k], told(x, 0, 0, at).judge(0, 0), at == then[k] ? -5 : 0);
            }
        }
        c.about("JUDGED: from a place on");
        for (int from = 0; from <= 56; from++) {
            DonkeyBridge x = going(0, 0, 6, 0);
            x.tape(3, 0, 60);
            for (int i = 0; i < 4; i++) {
                x.item(3, from + i, as[i]);
            }
            c.due("from " + from, x.judge(3, from), -5);
            x.item(3, from + 3, 9);
            c.due("from " + from + ", the last otherwise", x.judge(3, from), 3);
        }
        c.about("JUDGED: -5: none, or there is none to look at");
        c.due("no ACTS, a row", told(going(), 0, 0, 0, 1).judge(0, 0), -5);
        c.due("no ACTS, a row of none", told(going(), 0, 0).judge(0, 0), -5);
        c.due("no ACTS, nothing there", going().judge(0, 0), -5);
        c.due("no ACTS, place beyond", told(going(), 0, 0, 0, 1).judge(0, 2), -5);
        c.about("JUDGED: 100 and how many were looked at, if the row ends ahead of that");
        for (int n = 0; n <= 4; n++) {
            long[] items = new long[n];
            System.arraycopy(as, 0, items, 0, n);
            c.due("a row of " + n, told(going(0, 0, 6, 0), 0, 0, items).judge(0, 0), n < 4 ? 100 + n : -5);
        }
        int[] twelve = new int[12];
        DonkeyBridge x = Check.road("look 0", 0, 0, 0);
        Check.acts(x, twelve);
        x.tape(0, 0, 12);
        c.due("twelve as told", x.judge(0, 0), -5);
        c.due("twelve, from 1", x.judge(0, 1), 111);
        x.tape(0, 0, 11);
        c.due("eleven as told", x.judge(0, 0), 111);
        c.due("from the last", x.judge(0, 10), 101);
        c.due("from the end", x.judge(0, 11), 100);
        c.due("from beyond the end", x.judge(0, 12), 100);
        c.due("from 60", x.judge(0, 60), 100);
        c.due("from 61", x.judge(0, 61), 100);
        c.due("from the most", x.judge(0, HIGH), 100);
        x.item(0, 10, 1);
        c.due("otherwise ahead of the end", x.judge(0, 0), 10);
        x.tape(0, 0, 60);
        c.due("of 60, from 48", x.judge(0, 48), -5);
        c.due("of 60, from 49", x.judge(0, 49), 111);
        c.due("of 60, from 59", x.judge(0, 59), 101);
        c.about("JUDGED: 100 if the place is below 0, or the TAPE holds nothing");
        c.due("place -1", told(going(0), 0, 0, 0, 0).judge(0, -1), 100);
        c.due("place low", told(going(0), 0, 0, 0, 0).judge(0, LOW), 100);
        c.due("nothing there", going(0).judge(0, 0), 100);
        c.due("nothing there, place -1", going(0).judge(0, -1), 100);
        x = told(going(0), 0, 1, 0);
        x.tape(0, -1, 0);
        c.due("it held shorts, now nothing", x.judge(0, 0), 100);
        c.about("judge: NONE: tape; CAST: it is no row of bytes");
        c.due("tape -1", going(0).judge(-1, 0), -1);
        c.due("tape 6", going(0).judge(6, 0), -1);
        c.due("tape 0", told(going(0), 0, 0, 0).judge(0, 0), -5);
        c.due("tape 5", told(going(0), 5, 0, 0).judge(5, 0), -5);
        for (int sort = 1; sort <= 4; sort++) {
            c.due("sort " + sort, told(going(0), 0, sort, 0).judge(0, 0), -12);
            c.due("sort " + sort + " of none", told(going(0), 0, sort).judge(0, 0), -12);
            c.due("sort " + sort + ", place -1", told(going(0), 0, sort, 0).judge(0, -1), -12);
            c.due("sort " + sort + ", no ACTS", told(going(), 0, sort, 0).judge(0, 0), -12);
        }
        c.about("JUDGED when it is OVER: it stays where it is");
        x = Check.with(told(going(0, 6), 0, 0, 2, 2), 12, 2);
        c.due("as told", x.judge(0, 0), -5);
        x.item(0, 1, 3);
        c.due("otherwise", x.judge(0, 0), 1);
        x = told(new DonkeyBridge(), 0, 0, 0);
        Check.acts(x, 6);
        c.due("no PLACES", x.judge(0, 0), -5);
    }

    public static void main(String[] args) {
        Check c = new Check("TapeEdgeTest");
        tapes(c);
        items(c);
        shifts(c);
        judged(c);
        c.end();
    }
}
