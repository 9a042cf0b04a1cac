/** Terms 3 (soonest to shift) and promises 14 to 19: each sentence that names a bound, a tie, an end. */
public final class SearchEdgeTest {
    private static final int PAID = 6, HUNGER = 7, WEAR = 8, LOOKS = 9, LEFT = 10, RIGHT = 11, AT = 12, SITS = 13, GONE = 14;

    /** So many places of kind STAND and v 0, the things 0, 1 and so on, without hunger. */
    private static DonkeyBridge road(int places, String law, int... set) {
        int[] told = new int[places * 3];
        for (int i = 0; i < places; i++) {
            told[3 * i + 2] = i % 6;
        }
        return Check.with(Check.with(Check.road(law, told), HUNGER, 0), set);
    }

    private static void soonest(Check c, DonkeyBridge x, int k, long... due) {
        long[] got = new long[5];
        for (int what = -1; what <= 3; what++) {
            got[what + 1] = x.soonest(k, what);
        }
        c.dueRow("soonest " + k, got, due);
    }

    private static void soon(Check c) {
        c.about("SOONEST by k (0 .. 4)");
        // it sits whatever is done, until so many half minutes are gone; then it goes at once
        for (int acts = 1; acts <= 5; acts++) {
            DonkeyBridge x = road(3, "not 90 t<" + (acts - 1) + ";go 40 a<9");
            c.due("k -1", x.soonest(-1, -1), -2);
            c.due("k 5", x.soonest(5, -1), -2);
            for (int k = 0; k <= 4; k++) {
                long[] due = {-5, -5, -5, -5, -5};
                for (int i = 0; i <= acts && acts <= k; i++) {
                    due[i] = i == 0 ? acts : 0;
                }
                soonest(c, x, k, due);
            }
        }
        c.about("the fewest ACTS (1 on)");
        DonkeyBridge x = road(2, "go 11 a<9");
        soonest(c, x, 0, -5, -5, -5, -5, -5);
        soonest(c, x, 1, 1, 0, -5, -5, -5);
        soonest(c, x, 4, 1, 0, -5, -5, -5);
        // fear is above 10 only behind a hit, or two, or three
        soonest(c, road(2, "go 30 f>12;hit 0;look 0;lead 0"), 1, -5, -5, -5, -5, -5);
        soonest(c, road(2, "go 30 f>12;hit 0;look 0;lead 0"), 2, 2, 7, 0, -5, -5);
        soonest(c, road(2, "go 30 f>15;hit 0;look 0;lead 0"), 2, -5, -5, -5, -5, -5);
        soonest(c, road(2, "go 30 f>15;hit 0;look 0;lead 0"), 3, 3, 7, 7, 0, -5);
        soonest(c, road(2, "go 38 f>18;not 10 f>9;hit 0;look 0;lead 0"), 3, -5, -5, -5, -5, -5);
        soonest(c, road(2, "go 38 f>18;not 5 f>9;hit 0;look 0;lead 0"), 4, 4, 7, 7, 7, 0);
        soonest(c, road(2, "go 40 f>21;not 5 f>9;hit 0;look 0;lead 0"), 4, -5, -5, -5, -5, -5);

        c.about("(all but 6)");
        soonest(c, road(2, "not 99 a<9"), 4, -5, -5, -5, -5, -5);
        soonest(c, road(1, "not 99 a<9"), 4, -5, -5, -5, -5, -5);

        c.about("of several rows the first as a row");
        soonest(c, road(2, "go 11 a<9"), 4, 1, 0, -5, -5, -5);
        soonest(c, road(2, "go 10 a<9;lead 1"), 4, 1, 1, -5, -5, -5);
        soonest(c, road(2, "go 9 a<9;lead 0"), 4, 1, 2, -5, -5, -5);
        soonest(c, road(2, "go 21 a<9", 0, 99), 4, 1, 3, -5, -5, -5);
        soonest(c, road(2, "go 1 a<9;lead 0", HUNGER, 20), 4, 1, 4, -5, -5, -5);
        soonest(c, road(2, "go 1 a<9;lead 0;hit 10"), 4, 1, 7, -5, -5, -5);
        // unloading (5 off each) is the only act behind which HURT is less
        x = Check.road("go 30 a<9;hurt 99 s>0;hurt 99 s>0", 2, 0, 0);
        Check.with(x, HUNGER, 0, LEFT, 3, RIGHT, 5);
        soonest(c, x, 2, 2, 5, 0, -5, -5);
        Check.with(x, LEFT, 6);
        soonest(c, x, 2, -5, -5, -5, -5, -5);
        soonest(c, x, 3, 3, 5, 5, 0, -5);

        c.about("behind which AT is just 1 more than it is now");
        // at 1 it backs off to 0 at first, and from there it goes
        x = road(3, "go 9 t>0;not 16 t=0;hit 0;lead 0", AT, 1, 0, 0, 1, 0);
        c.due("it backs off", x.would(0), 2);
        c.due("not by 2, since it is at 1 again then", x.soonest(2, -1), -5);
        soonest(c, x, 3, 3, 0, 0, 0, -5);
        c.about("SOONEST at the last PLACE");
        soonest(c, road(2, "go 11 a<9", AT, 1), 4, 1, 0, -5, -5, -5);
        c.about("soonest: (-5: it is over, or none)");
        soonest(c, road(2, "go 11 a<9"), 4, 1, 0, -5, -5, -5);
        c.about("soonest: NONE: what; BAD: k; STATE: it is OVER");
        x = road(2, "go 11 a<9", AT, 2);
        c.due("all three", x.soonest(5, 4), -1);
        c.due("what -2", x.soonest(4, -2), -1);
        c.due("BAD and STATE", x.soonest(5, 3), -2);
        c.due("BAD and STATE, k -1", x.soonest(-1, -1), -2);
        c.due("STATE", x.soonest(0, -1), -3);
        c.due("STATE of the last", x.soonest(4, 3), -3);
    }

    private static void gentlest(Check c, DonkeyBridge x, int n, long... due) {
        long[] got = new long[n + 1];
        for (int what = -1; what < n; what++) {
            got[what + 1] = x.gentlest(n, what);
        }
        c.dueRow("gentlest " + n, got, due);
        c.due("gentlest " + n + " what -2", x.gentlest(n, -2), -1);
        c.due("gentlest " + n + " what " + n, x.gentlest(n, n), -1);
    }

    private static void gentle(Check c) {
        c.about("GENTLEST of n (1 .. 4)");
        DonkeyBridge x = road(2, "go 30 a<9");
        c.due("n 0", x.gentlest(0, 0), -2);
        c.due("n 5", x.gentlest(5, 0), -2);
        c.about("the row of n ACTS (but 6), with the least LEARNT; of several the first as a row");
        gentlest(c, x, 1, 55, 0);
        gentlest(c, x, 2, 50, 0, 0);
        gentlest(c, x, 3, 50, 0, 0, 0);
        gentlest(c, x, 4, 50, 0, 0, 0, 0);
        x = road(2, "go 30 a<9", PAID, 4);
        gentlest(c, x, 1, 58, 4);
        gentlest(c, x, 2, 52, 4, 4);
        gentlest(c, x, 3, 52, 4, 4, 0);
        // it stands first; led in vain, it is paid 1 less
        x = road(1, "go 12 t>0;not 4 t=0;lead 0;hit 0", PAID, 9);
        gentlest(c, x, 1, -5, -5);
        gentlest(c, x, 2, 60, 1, 4);
        c.about("GENTLEST: each ACT (but 6) may be the one");
        gentlest(c, road(2, "go 11 a<9"), 1, 55, 0);
        gentlest(c, road(2, "go 10 a<9;lead 1"), 1, 55, 1);
        gentlest(c, road(2, "go 9 a<9;lead 0"), 1, 55, 2);
        gentlest(c, road(2, "go 21 a<9", 0, 99), 1, 144, 3);
        gentlest(c, road(2, "go 1 a<9;lead 0", HUNGER, 20), 1, 55, 4);
        gentlest(c, road(2, "go 1 a<9;lead 0;hit 10"), 1, 55, 7);
        gentlest(c, road(1, "go 30 f>15;hit 0;look 0;lead 0"), 3, 61, 7, 7, 0);
        x = Check.road("go 30 a<9;hurt 99 s>0;hurt 99 s>0", 2, 0, 0);
        Check.with(x, HUNGER, 0, LEFT, 3, RIGHT, 5);
        gentlest(c, x, 2, 55, 5, 0);
        gentlest(c, road(2, "not 99 a<9"), 1, -5, -5);
        c.about("behind which AT is 1 more than now, or more");
        gentlest(c, road(1, "go 30 a<9"), 4, 55, 0, 0, 0, 0);
        gentlest(c, road(2, "go 30 a<9", AT, 1), 2, 55, 0, 0);
        gentlest(c, road(4, "go 30 a<9"), 4, 40, 0, 0, 0, 0);
        gentlest(c, road(5, "go 30 a<9"), 4, 40, 0, 0, 0, 0);
        c.about("GENTLEST: (-5: none)");
        gentlest(c, road(2, "not 99 a<9"), 1, -5, -5);
        gentlest(c, road(2, "not 99 a<9"), 4, -5, -5, -5, -5, -5);
        // it goes to and fro, and ends where it began
        gentlest(c, road(3, "go 30 t=0;not 10 t=1", AT, 1), 2, -5, -5, -5);
        gentlest(c, road(3, "go 30 t=0;not 10 t=1", AT, 1), 1, 55, 0);
        c.about("GENTLEST: LEARNT may be 0");
        gentlest(c, road(1, "go 30 a<9", 0, 5, 1, 0, 2, 0, 3, 0, 4, 0, 5, 0), 1, 0, 0);
        c.about("gentlest: BAD: n; NONE: what; STATE: it is OVER");
        x = road(1, "", AT, 1);
        c.due("all three", x.gentlest(0, -2), -2);
        c.due("all three, n 5", x.gentlest(5, 5), -2);
        c.due("NONE and STATE", x.gentlest(1, 1), -1);
        c.due("NONE and STATE, what -2", x.gentlest(4, -2), -1);
        c.due("STATE", x.gentlest(1, 0), -3);
        c.due("STATE of LEARNT", x.gentlest(4, -1), -3);
    }

    private static int why(int kind, int v, String law, int... set) {
        DonkeyBridge x = Check.road(law, 0, 0, 0, 0, 0, 0, kind, v, 1, 0, 0, 0);
        Check.with(x, 1, 0, AT, 2);
        return Check.with(x, set).why();
    }

    private static void whys(Check c) {
        c.about("WHY: -5: it would GO, or is OVER");
        c.due("drive 1", why(0, 0, "go 6 a<9", 1, 5), -5);
        c.due("drive 0", why(0, 0, "go 5 a<9", 1, 5), 1);
        c.due("drive 0, of nothing", why(0, 0, ""), 0);
        c.due("over", why(0, 0, "", AT, 4), -5);
        c.due("no places", new DonkeyBridge().why(), -5);
        c.about("WHY: of several the least; each alone, each with the next alike");
        c.due("NOT", why(0, 0, "not 1 a<9"), 0);
        c.due("FEAR", why(0, 0, "", 1, 1), 1);
        c.due("HURT", why(2, 0, "hurt 1 a<9"), 2);
        c.due("PAID", why(3, 0, "", PAID, 1), 3);
        c.due("WEAR by 2", why(5, 0, "", WEAR, 2), 4);
        c.due("v times AT", why(6, 1, ""), 5);
        c.due("SITS", why(0, 0, "", SITS, 1), 6);
        c.due("NOT and FEAR", why(0, 0, "not 9 a<9", 1, 9), 0);
        c.due("NOT and more FEAR", why(0, 0, "not 9 a<9", 1, 10), 1);
        c.due("FEAR and HURT", why(2, 0, "hurt 9 a<9", 1, 9), 1);
        c.due("FEAR and more HURT", why(2, 0, "hurt 10 a<9", 1, 9), 2);
        c.due("FEAR and PAID", why(3, 0, "", 1, 9, PAID, 9), 1);
        c.due("FEAR and more PAID", why(3, 0, "", 1, 9, PAID, 10), 3);
        c.due("HURT and WEAR", why(5, 0, "hurt 9 a<9", WEAR, 19), 2);
        c.due("HURT and more WEAR", why(5, 0, "hurt 9 a<9", WEAR, 20), 4);
        c.due("PAID and v times AT", why(6, 5, "", PAID, 10), 3);
        c.due("PAID and more v times AT", why(6, 5, "", PAID, 9), 5);
        c.due("v times AT and SITS", why(6, 8, "", SITS, 1), 5);
        c.due("less v times AT and SITS", why(6, 7, "", SITS, 1), 6);
        c.due("WEAR and SITS", why(5, 0, "", WEAR, 30, SITS, 1), 4);
        c.due("less WEAR and SITS", why(5, 0, "", WEAR, 29, SITS, 1), 6);
        c.due("NOT and SITS", why(0, 0, "not 15 a<9", SITS, 1), 0);
        c.about("WHY: 1 FEAR (as it counts there)");
        c.due("twice at FEARED", why(1, 0, "not 9 a<9", 1, 5), 1);
        c.due("twice at FEARED, less", why(1, 0, "not 9 a<9", 1, 4), 0);
        c.due("less the looks at LOOKING", why(4, 3, "not 9 a<9", 1, 8, LOOKS, 2), 1);
        c.due("less more looks at LOOKING", why(4, 3, "not 9 a<9", 1, 8, LOOKS, 3), 0);
        c.about("WHY: what does not count there is 0");
        for (int kind = 0; kind <= 6; kind++) {
            if (kind != 2 && kind != 5) {
                c.due("HURT at kind " + kind, why(kind, 0, "hurt 99 a<9;not 1 a<9"), 0);
            }
            if (kind != 3 && kind != 6) {
                c.due("PAID at kind " + kind, why(kind, 0, "not 1 a<9", PAID, 99), 0);
            }
            if (kind != 5) {
                c.due("WEAR at kind " + kind, why(kind, 0, "not 1 a<9", WEAR, 99), 0);
            }
            if (kind != 6) {
                c.due("v times AT at kind " + kind, why(kind, 9, "not 1 a<9"), 0);
            }
        }
        c.about("WHY: now with 0");
        c.due("it would with 1 and 7, not with 0", why(0, 0, "lead 99;hit 99", 1, 9, HUNGER, 99), 1);
    }

    private static void waits(Check c) {
        c.about("WAITS: behind how many HALF MINUTES (1 .. 60) AT is first 1 more than now (-5: never)");
        c.due("1", road(2, "go 11 a<9").waits(), 1);
        for (int n = 2; n <= 60; n++) {
            c.due("" + n, road(2, "go 40 t=" + (n - 1)).waits(), n);
        }
        // a law of the half minute holds again after 60: what comes only in the 61st takes what wears off
        c.due("60, by wear", road(2, "not 99 w>0;go 30 w=0", WEAR, 59, SITS, 1).waits(), 60);
        c.due("61, by wear: never", road(2, "not 99 w>0;go 30 w=0", WEAR, 60, SITS, 1).waits(), -5);
        c.due("never", road(2, "not 99 a<9").waits(), -5);
        c.due("at the last place", road(2, "go 11 a<9", AT, 1).waits(), 1);
        c.about("WAITS: AT is first 1 more than now: what backs off at first comes back");
        c.due("backs off once", road(3, "not 16 t=0;go 9 t>0", AT, 1, 0, 0, 1, 0).waits(), 3);
        c.about("waits: with 0 alone");
        c.due("lead, hit, hunger, loads do nothing", road(2, "go 1 a<9;lead 99;hit 99;hurt 99 s>0", HUNGER, 99, LEFT, 9).waits(), 6);
        c.about("WAITS goes on beyond 9999 HALF MINUTES");
        DonkeyBridge x = State.LATE.make();
        Check.law(x, "go 1 a<99");
        c.due("all of 6", x.waits(), 6);
        c.due("gone as before", x.now(GONE), 9999);
        c.about("waits, round: STATE: it is OVER");
        c.due("waits", road(2, "", AT, 2).waits(), -3);
        c.due("round", road(2, "", AT, 2).round(), -3);
        c.due("waits without places", new DonkeyBridge().waits(), -3);
        c.due("round without places", new DonkeyBridge().round(), -3);
    }

    private static void rounds(Check c) {
        c.about("ROUND: whether ford (0 as 1) is less than WAITS, or that is never");
        int[][] due = {
            // waits, ford, round
            {1, 0, 0}, {1, 1, 0}, {1, 2, 0}, {2, 0, 1}, {2, 1, 1}, {2, 2, 0}, {2, 3, 0}, {9, 8, 1}, {9, 9, 0}, {9, 10, 0},
            {60, 59, 1}, {60, 60, 0}, {60, 61, 0}, {60, 99, 0}
        };
        for (int[] d : due) {
            DonkeyBridge x = road(2, "go 40 t=" + (d[0] - 1) + ";ford " + d[1]);
            c.due("waits", x.waits(), d[0]);
            c.due("ford " + d[1] + " of " + d[0], x.round(), d[2]);
        }
        c.due("ford 9 without, waits 9", road(2, "go 40 t=8").round(), 0);
        c.due("ford 9 without, waits 10", road(2, "go 40 t=9").round(), 1);
        for (int ford : new int[] {0, 1, 60, 99}) {
            c.due("never, ford " + ford, road(2, "not 99 a<9;ford " + ford).round(), 1);
        }
    }

    private static void shift(Check c, String law, int left, int right, int due) {
        c.due(law + " with " + left + " and " + right, road(1, law, LEFT, left, RIGHT, right).shiftLoad(), due);
    }

    private static void shifts(Check c) {
        c.about("SHIFT: how much of the LOADS should go from LEFT to RIGHT (below 0: the other way)");
        shift(c, "hurt 9 l>0", 8, 0, 4);
        shift(c, "hurt 9 l>0", 0, 8, -4);
        shift(c, "hurt 9 l>1", 9, 0, 4);
        shift(c, "hurt 9 l>1", 0, 9, -4);
        c.about("SHIFT: no LOAD being below 0 or above 99 then");
        shift(c, "hurt 9 l<5", 5, 0, 0);
        shift(c, "hurt 9 l<6", 5, 0, 0);
        shift(c, "hurt 9 l<5", 4, 1, -1);
        shift(c, "hurt 9 l<5", 1, 4, 1);
        shift(c, "hurt 9 l<5", 3, 2, -2);
        shift(c, "hurt 9 l<5", 2, 3, 2);
        shift(c, "hurt 9 l<99", 99, 0, 0);
        shift(c, "hurt 9 l<99", 50, 49, -49);
        shift(c, "hurt 9 l<99", 49, 50, 49);
        shift(c, "hurt 9 l<98", 51, 50, 0);
        shift(c, "hurt 9 l<97", 51, 50, -48);
        shift(c, "hurt 9 l<97", 50, 51, 48);
        shift(c, "hurt 9 l<98", 50, 51, 0);
        shift(c, "hurt 9 l=0", 99, 99, 0);
        shift(c, "hurt 9 l=0", 0, 0, 0);
        shift(c, "hurt 9 l=0", 98, 98, 1);
        shift(c, "hurt 9 l=0", 1, 1, 1);
        shift(c, "hurt 9 l>0", 99, 0, 0);
        shift(c, "hurt 9 l>1", 99, 0, 49);
        shift(c, "hurt 9 l>1", 0, 99, -49);
        shift(c, "hurt 9 l<90", 99, 99, 0);
        c.about("SHIFT: of several the one of the least size, then that above 0");
        shift(c, "hurt 9 l=0", 40, 40, 1);
        shift(c, "hurt 9 l<2", 40, 40, 1);
        shift(c, "hurt 9 l<3", 40, 40, 2);
        shift(c, "hurt 9 l=1", 41, 40, -1);
        shift(c, "hurt 9 l=1", 40, 41, 1);
        shift(c, "hurt 9 l>50", 99, 1, 24);
        shift(c, "", 99, 1, 0);
        shift(c, "hurt 9 s>0", 99, 1, 0);
        c.about("SHIFT: so that HURT were least, all else as it is now");
        shift(c, "hurt 5 l>9;hurt 4 l>5;hurt 3 l<4", 20, 0, 8);
        shift(c, "hurt 3 l>9;hurt 4 l<9", 19, 0, 5);
        shift(c, "hurt 3 l>9;hurt 4 l<10", 20, 0, 0);
        shift(c, "hurt 9 l>3&t=0;hurt 8 l>1&f=10;hurt 7 l>0&f=9", 30, 0, 15);
        for (int kind = 0; kind <= 6; kind++) {
            DonkeyBridge x = Check.with(Check.road("hurt 9 l>0", kind, 0, 0), LEFT, 8);
            c.due("at a place of kind " + kind, x.shiftLoad(), 4);
        }
        c.about("shiftLoad: -100003: STATE: it is OVER");
        c.due("over", road(1, "hurt 9 l>0", LEFT, 8, AT, 1).shiftLoad(), -100003);
        c.due("no places", new DonkeyBridge().shiftLoad(), -100003);
    }

    public static void main(String[] args) {
        Check c = new Check("SearchEdgeTest");
        soon(c);
        gentle(c);
        whys(c);
        waits(c);
        rounds(c);
        shifts(c);
        c.end();
    }
}
