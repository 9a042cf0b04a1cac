/** Promises 9 to 13: drive, would, go, row, hand. */
public final class HalfMinuteTest {
    private static final int LOW = Integer.MIN_VALUE, HIGH = Integer.MAX_VALUE;
    private static final String LAW = "go 60 a<99;not 7 h>19;hurt 11 w>2;lead 8;hit 13;look 4;ford 3";

    /** At place 2 of 4, of a kind with v 3: fear 21, paid 6, hunger 25, wear 9, looks 5. */
    private static DonkeyBridge at(int kind, String law) {
        DonkeyBridge x = new DonkeyBridge();
        x.place(0, 0, 0);
        x.place(0, 0, 0);
        x.place(kind, 3, 1);
        x.place(0, 0, 2);
        Check.law(x, law);
        int[] all = {30, 21, 40, 10, 10, 10, 6, 25, 9, 5, 14, 3, 2};
        for (int what = 0; what < all.length; what++) {
            x.set(what, all[what]);
        }
        return x;
    }

    private static long[] drives(DonkeyBridge x) {
        long[] all = new long[8];
        for (int act = 0; act < 8; act++) {
            all[act] = x.drive(act);
        }
        return all;
    }

    private static void drive(Check c) {
        // 53 is go less not; then less the fear and so on; 1 +8, 2 half of 21, 3 no fear and -20, 4 +12, 7 +13
        c.dueRow("STAND", drives(at(0, LAW)), 32, 40, 43, 33, 44, 32, 32, 45);
        c.dueRow("FEARED", drives(at(1, LAW)), 11, 19, 33, 33, 23, 11, 11, 24);
        c.dueRow("SORE", drives(at(2, LAW)), 21, 29, 32, 22, 33, 21, 21, 34);
        c.dueRow("SPOILT", drives(at(3, LAW)), 26, 34, 37, 27, 38, 26, 26, 39);
        c.dueRow("LOOKING", drives(at(4, LAW)), 26, 34, 48, 33, 38, 26, 26, 39);
        c.dueRow("TIRED", drives(at(5, LAW)), 17, 25, 28, 18, 29, 17, 17, 30);
        c.dueRow("CALLED", drives(at(6, LAW)), 20, 28, 31, 21, 32, 20, 20, 33);
        DonkeyBridge x = at(6, LAW);
        x.set(13, 1);
        c.dueRow("CALLED, sitting", drives(x), 5, 13, 16, 6, 17, 5, 5, 18);
        x = at(4, LAW);
        x.set(1, 7);
        c.dueRow("LOOKING, no more than its fear", drives(x), 53, 61, 53, 33, 65, 53, 53, 66);
        c.due("drive -1", x.drive(-1), -100001);
        c.due("drive 8", x.drive(8), -100001);
        x.set(12, 4);
        c.due("drive when over", x.drive(0), -100003);
        c.due("drive 6 when over", x.drive(6), -100003);
        c.due("none ahead of over", x.drive(8), -100001);
    }

    /** One place of kind STAND, where DRIVE with 0 is 50 less its fear. */
    private static DonkeyBridge standing(int fear, String law) {
        DonkeyBridge x = new DonkeyBridge();
        x.place(0, 0, 0);
        x.place(0, 0, 1);
        Check.law(x, "go 50 a<99" + law);
        x.set(12, 1);
        x.set(1, fear);
        return x;
    }

    private static void would(Check c) {
        int[][] due = {{49, 1}, {50, 0}, {64, 0}, {65, 2}, {89, 2}, {90, 3}, {99, 3}};
        for (int[] d : due) {
            c.due("would with fear " + d[0], standing(d[0], "").would(0), d[1]);
            c.due("would 5 with fear " + d[0], standing(d[0], "").would(5), d[1]);
            c.due("would 6 with fear " + d[0], standing(d[0], "").would(6), 1);
            c.due("go with fear " + d[0], standing(d[0], "").go(0), d[1]);
            c.due("go 6 with fear " + d[0], standing(d[0], "").go(6), 1);
        }
        DonkeyBridge x = standing(99, "");
        c.due("it asks only", x.would(0) + x.now(12) * 10 + x.now(14) * 100 + x.now(13) * 1000, 13);
        c.due("would -1", x.would(-1), -1);
        c.due("would 8", x.would(8), -1);
        x.set(12, 2);
        c.due("would when over", x.would(0), -5);
        c.due("would 6 when over", x.would(6), -5);
        c.due("none ahead of over", x.would(8), -1);
    }

    /** Behind an act: what it did, fear of 1, paid, hunger, wear, looks, left, right, at, sits, half minutes. */
    private static long[] behind(int kind, int act, int fear, int sits) {
        DonkeyBridge x = at(kind, LAW);
        x.set(1, fear);
        x.set(13, sits);
        long did = x.go(act);
        return new long[] {did, x.now(1), x.now(6), x.now(7), x.now(8), x.now(9), x.now(10), x.now(11), x.now(12),
            x.now(13), x.now(14)};
    }

    private static void goes(Check c) {
        // of kind STAND: 53 (less 15 sitting) less the fear and more by the act
        c.dueRow("0 goes", behind(0, 0, 21, 1), 1, 16, 6, 25, 10, 0, 14, 3, 3, 0, 1);
        c.dueRow("1 goes", behind(0, 1, 21, 0), 1, 16, 6, 25, 10, 0, 14, 3, 3, 0, 1);
        c.dueRow("2 goes", behind(0, 2, 99, 0), 1, 94, 6, 25, 10, 0, 14, 3, 3, 0, 1);
        c.dueRow("3 goes", behind(0, 3, 99, 0), 1, 94, 6, 25, 10, 0, 14, 3, 3, 0, 1);
        c.dueRow("4 goes", behind(0, 4, 21, 0), 1, 16, 5, 22, 10, 0, 14, 3, 3, 0, 1);
        c.dueRow("5 goes", behind(0, 5, 3, 0), 1, 0, 6, 25, 10, 0, 9, 0, 3, 0, 1);
        c.dueRow("6 goes round", behind(0, 6, 99, 1), 1, 99, 16, 25, 9, 0, 14, 3, 3, 0, 3);
        c.dueRow("7 goes", behind(0, 7, 21, 0), 1, 16, 6, 25, 10, 0, 14, 3, 3, 0, 1);
        c.dueRow("0 stands", behind(0, 0, 53, 0), 0, 49, 6, 25, 9, 6, 14, 3, 2, 0, 1);
        c.dueRow("0 stands up", behind(0, 0, 45, 1), 0, 41, 6, 25, 9, 6, 14, 3, 2, 0, 1);
        c.dueRow("1 stands", behind(0, 1, 70, 0), 0, 66, 5, 25, 9, 6, 14, 3, 2, 0, 1);
        c.dueRow("2 stands", behind(1, 2, 55, 0), 0, 51, 6, 25, 9, 6, 14, 3, 2, 0, 1);
        c.dueRow("3 stands", behind(2, 3, 99, 1), 1, 94, 6, 25, 10, 0, 14, 3, 3, 0, 1);
        c.dueRow("4 stands", behind(0, 4, 75, 0), 0, 71, 11, 22, 9, 6, 14, 3, 2, 0, 1);
        c.dueRow("5 stands", behind(0, 5, 60, 0), 0, 56, 6, 25, 9, 6, 9, 0, 2, 0, 1);
        c.dueRow("7 stands", behind(0, 7, 70, 1), 2, 73, 4, 25, 9, 0, 14, 3, 1, 0, 1);
        c.dueRow("7 stands, not sitting", behind(0, 7, 70, 0), 0, 73, 4, 25, 9, 5, 14, 3, 2, 0, 1);
        c.dueRow("0 backs", behind(0, 0, 68, 0), 2, 68, 6, 25, 9, 0, 14, 3, 1, 0, 1);
        c.dueRow("0 backs, sitting", behind(0, 0, 77, 1), 2, 77, 6, 25, 9, 0, 14, 3, 1, 0, 1);
        c.dueRow("1 backs", behind(0, 1, 80, 0), 2, 80, 5, 25, 9, 0, 14, 3, 1, 0, 1);
        c.dueRow("4 backs", behind(0, 4, 90, 0), 2, 90, 11, 22, 9, 0, 14, 3, 1, 0, 1);
        c.dueRow("7 backs", behind(0, 7, 98, 0), 2, 99, 4, 25, 9, 0, 14, 3, 1, 0, 1);
        c.dueRow("0 sits", behind(0, 0, 93, 0), 3, 93, 6, 25, 8, 5, 14, 3, 2, 1, 1);
        c.dueRow("1 sits", behind(0, 1, 90, 1), 3, 90, 5, 25, 8, 5, 14, 3, 2, 1, 1);
        c.dueRow("1 sits down", behind(1, 1, 60, 0), 3, 60, 5, 25, 8, 5, 14, 3, 2, 1, 1);
        c.dueRow("4 sits", behind(1, 4, 60, 0), 3, 60, 11, 22, 8, 5, 14, 3, 2, 1, 1);
        c.dueRow("5 sits", behind(0, 5, 95, 0), 3, 95, 6, 25, 8, 5, 9, 0, 2, 1, 1);
        c.dueRow("7 sits", behind(1, 7, 60, 0), 3, 63, 4, 25, 8, 5, 14, 3, 2, 1, 1);
    }

    private static void bounds(Check c) {
        DonkeyBridge x = standing(3, ";look 30");
        x.set(8, 99);
        x.set(6, 0);
        x.set(7, 2);
        c.due("goes", x.go(4), 1);
        c.due("fear not below 0", x.now(1), 0);
        c.due("wear not above 99", x.now(8), 99);
        c.due("paid not below 0", x.now(6), 0);
        c.due("hunger not below 0", x.now(7), 0);
        x = standing(60, ";look 70");
        x.set(9, 9);
        c.due("stands", x.go(0), 0);
        c.due("looks not above 9", x.now(9), 9);
        c.due("fear not below 0 by looks", x.now(1), 0);
        x = standing(99, "");
        x.set(6, 97);
        c.due("sits", x.go(0), 3);
        c.due("wear not below 0", x.now(8), 0);
        c.due("feeds", x.go(4), 3);
        c.due("paid not above 99", x.now(6), 99);
        c.due("hits", x.go(7), 3);
        c.due("fear not above 99", x.now(1), 99);
        x.go(6);
        c.due("paid not above 99 by the ford", x.now(6), 99);
        x = new DonkeyBridge();
        x.place(0, 0, 0);
        x.set(0, 20);
        c.due("backs", x.go(0), 2);
        c.due("not behind place 0", x.now(12), 0);
        x = standing(0, "");
        x.set(10, 30);
        x.set(11, 40);
        x.go(5);
        c.due("each load 5 less", x.now(10) * 100 + x.now(11), 2535);
        // 98 and 5 more is 99, 99 less 2 is 97: each at once
        x = standing(99, ";hit 0");
        x.set(6, 98);
        x.set(13, 1);
        x.go(4);
        x.go(7);
        c.due("each at once", x.now(6), 97);
    }

    private static void over(Check c) {
        DonkeyBridge x = standing(0, ";ford 0");
        c.due("go -1", x.go(-1), -1);
        c.due("go 8", x.go(8), -1);
        c.due("ford 0 takes 1", x.go(6) * 10 + x.now(14), 11);
        c.due("go when over", x.go(0), -5);
        c.due("go 4 when over", x.go(4), -5);
        c.due("go 6 when over", x.go(6), -5);
        c.due("none ahead of over", x.go(8), -1);
        c.due("no half minute is gone", x.now(14), 1);
        c.due("nothing is paid", x.now(6), 10);
        c.due("no hunger is stilled", x.now(7), 20);
    }

    private static void time(Check c) {
        DonkeyBridge x = new DonkeyBridge();
        x.place(0, 0, 0);
        x.place(0, 0, 0);
        Check.law(x, "ford 99");
        for (int i = 0; i < 100; i++) {
            x.set(12, 0);
            x.go(6);
        }
        c.due("9900 gone", x.now(14), 9900);
        x.set(12, 1);
        c.due("9999 may be", x.go(6), 1);
        c.due("9999 gone", x.now(14), 9999);
        c.due("over, but state is ahead", x.go(0), -3);
        c.due("none ahead of state", x.go(8), -1);
        x.set(12, 0);
        c.due("10000 may not be", x.go(0), -3);
        c.due("nor with 6", x.go(6), -3);
        c.due("all is as it was", x.now(12) * 10000 + x.now(14), 9999);
        x.row(0);
        x.row(6);
        c.due("by hand it goes on", x.hand(2, 14), 9999 + 1 + 99);
        c.due("the half minute modulo 60", Check.law(x, "go 1 t=39"), 1);
        c.due("is 39", x.told(0), 1);
    }

    private static void rows(Check c) {
        DonkeyBridge x = standing(60, ";look 3");
        c.due("row 8", x.row(8), -1);
        c.due("row -2", x.row(-2), -1);
        c.due("row low", x.row(LOW), -1);
        for (int i = 1; i <= 12; i++) {
            c.due("row " + i, x.row((i - 1) % 8), i);
        }
        c.due("row full", x.row(0), -4);
        c.due("none ahead of full", x.row(8), -1);
        c.due("twelve", x.count(2), 12);
        c.due("empty", x.row(-1), 0);
        c.due("none", x.count(2), 0);
        Check.acts(x, 0, 7, 4, 6, 0);
        // 60 stands: 57; hit, 50 - 57 + 5 stands: 60; fed, hunger 20: 0 stands: 57 and paid 5; round, paid 15
        int[][] due = {{0, 60, 0, 0}, {1, 57, 0, 1}, {2, 60, 0, 2}, {3, 57, 5, 3}, {4, 57, 15, 12}, {5, 57, 15, 12}};
        for (int[] d : due) {
            c.due("hand " + d[0] + " fear", x.hand(d[0], 1), d[1]);
            c.due("hand " + d[0] + " paid", x.hand(d[0], 6), d[2]);
            c.due("hand " + d[0] + " half minutes", x.hand(d[0], 14), d[3]);
            c.due("hand " + d[0] + " learnt", x.hand(d[0], 15), 50 + d[1] + d[2]);
            c.due("hand " + d[0] + " at", x.hand(d[0], 12), d[0] < 4 ? 1 : 2);
        }
        c.due("hand -1", x.hand(-1, 0), -2);
        c.due("hand 6", x.hand(6, 0), -2);
        c.due("hand high", x.hand(HIGH, 0), -2);
        c.due("hand what -1", x.hand(0, -1), -1);
        c.due("hand what 16", x.hand(0, 16), -1);
        c.due("none ahead of bad", x.hand(6, 16), -1);
        c.due("all is as it was", x.now(1) * 1000 + x.now(6) * 100 + x.now(12) * 10 + x.now(14), 60010);
    }

    public static void main(String[] args) {
        Check c = new Check("HalfMinuteTest");
        drive(c);
        would(c);
        goes(c);
        bounds(c);
        over(c);
        time(c);
        rows(c);
        c.end();
    }
}
