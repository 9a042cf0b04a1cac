/** Terms 3 (wander to films) and promises 20 to 26: each sentence that names a bound, a tie, an end. */
public final class DayEdgeTest {
    private static final long NO = Long.MIN_VALUE;
    private static final int PAID = 6, HUNGER = 7, WEAR = 8, LOOKS = 9, AT = 12, SITS = 13, GONE = 14;

    /** One place of a kind with v 0 and THING 0, two behind it of kind STAND with THING 1; without hunger. */
    private static DonkeyBridge road(int kind, String law, int... set) {
        return Check.with(Check.with(Check.road(law, kind, 0, 0, 0, 0, 1, 0, 0, 1), HUNGER, 0), set);
    }

    private static void sure(Check c, DonkeyBridge x, int n, long above, long below) {
        c.due("sure " + n + " above", x.sure(n, 0), above);
        c.due("sure " + n + " below", x.sure(n, 1), below);
    }

    private static DonkeyBridge wandering(int odds, String law, int... acts) {
        DonkeyBridge x = road(0, law);
        x.wander(odds);
        Check.acts(x, acts);
        return x;
    }

    private static void wander(Check c) {
        c.about("Odds of WANDER become n (0 .. 10): what they were. BAD");
        DonkeyBridge x = new DonkeyBridge();
        c.due("0 at first; -1", x.wander(-1), -2);
        c.due("11", x.wander(11), -2);
        int before = 0;
        for (int n : new int[] {0, 10, 9, 1, 0, 10}) {
            c.due("to " + n, x.wander(n), before);
            c.due("then -1", x.wander(-1), -2);
            c.due("then 11", x.wander(11), -2);
            before = n;
        }
        c.about("with odds of n of ten DRIVE is 10 less in a HALF MINUTE");
        c.due("would does not wander", wandering(10, "go 11 a<9").would(0), 1);
        c.due("drive does not wander", wandering(10, "go 11 a<9").drive(0), 1);
        c.due("go does not wander", wandering(10, "go 11 a<9").go(0), 1);
        // 10 less: 20 goes no more, 21 does
        sure(c, wandering(10, "go 20 a<9", 0), 1, 0, 1);
        sure(c, wandering(10, "go 21 a<9", 0), 1, 1, 1);
        sure(c, wandering(0, "go 11 a<9", 0), 1, 1, 1);
        sure(c, wandering(0, "go 10 a<9", 0), 1, 0, 1);
        // what it does wandering is what it goes on from: it stands at 0
        sure(c, wandering(10, "go 20 a<9;look 0", 0, 0), 2, 0, 1);
        sure(c, wandering(10, "go 20 a<9;look 1", 0, 0), 2, 1, 1);
        sure(c, wandering(10, "go 20 a<9;look 0", 0, 0, 0, 0, 0, 0), 6, 0, 1);
        // wandering it backs off or sits down at first, for which it would stand: it is so then
        sure(c, Check.with(wandering(10, "not 4 t=0;go 21 t=1", 0, 0), AT, 1), 2, 0, 1);
        sure(c, Check.with(wandering(10, "go 6 t=0;go 21 t=1;look 0", 0, 0), AT, 1), 2, 1, 1);
        sure(c, Check.with(wandering(10, "go 5 t=0;go 21 t=1;look 0", 0, 0), AT, 1), 2, 0, 1);
        sure(c, wandering(10, "not 19 t=0;go 21 t=1;look 0", 0, 0), 2, 1, 1);
        sure(c, wandering(10, "not 20 t=0;go 21 t=1;look 0", 0, 0), 2, 0, 1);
        sure(c, wandering(10, "not 20 t=0;go 36 t=1;look 0", 0, 0), 2, 1, 1);
        c.about("(not with 6)");
        for (int n = 1; n <= 3; n++) {
            sure(c, wandering(10, "", 6, 6, 6), n, 1, 1);
            sure(c, wandering(5, "", 6, 6, 6), n, 1, 1);
        }
        sure(c, wandering(3, "go 11 a<9;look 0", 0, 6), 2, 1, 1);
    }

    private static void chances(Check c) {
        c.about("SURE of the first n of the ROW (1 .. 6)");
        DonkeyBridge x = wandering(5, "go 11 a<9;look 0", 0, 0, 0, 0, 0, 0, 0);
        c.due("n 0", x.sure(0, 0), NO);
        c.due("n 7 of 7", x.sure(7, 0), NO);
        for (int n = 1; n <= 6; n++) {
            sure(c, x, n, (1 << n) - 1, 1 << n);
        }
        c.about("sure: as many as the ROW has");
        for (int acts = 0; acts <= 6; acts++) {
            int[] row = new int[acts];
            x = wandering(5, "go 11 a<9;look 0", row);
            for (int n = 1; n <= 6; n++) {
                c.due(n + " of " + acts + " below", x.sure(n, 1), n <= acts ? 1 << n : NO);
            }
        }
        c.about("part 0 above, 1 below the line");
        x = wandering(3, "go 11 a<9", 0);
        c.due("part -1", x.sure(1, -1), NO);
        c.due("part 0", x.sure(1, 0), 7);
        c.due("part 1", x.sure(1, 1), 10);
        c.due("part 2", x.sure(1, 2), NO);
        c.about("a fraction in lowest terms");
        int[][] lowest = {{0, 1, 1}, {1, 9, 10}, {2, 4, 5}, {3, 7, 10}, {4, 3, 5}, {5, 1, 2}, {6, 2, 5}, {7, 3, 10}, {8, 1, 5},
            {9, 1, 10}, {10, 0, 1}};
        for (int[] l : lowest) {
            sure(c, wandering(l[0], "go 11 a<9;look 0", 0), 1, l[1], l[2]);
        }
        sure(c, wandering(6, "go 11 a<9;look 0", 0, 0), 2, 16, 25);
        sure(c, wandering(8, "go 11 a<9;look 0", 0, 0, 0, 0, 0, 0), 6, 11529, 15625);
        sure(c, wandering(9, "go 11 a<9;look 0", 0, 0, 0, 0, 0, 0), 6, 468559, 1000000);
        sure(c, wandering(10, "go 11 a<9;look 0", 0, 0, 0, 0, 0, 0), 6, 0, 1);
        sure(c, wandering(0, "go 11 a<9;look 0", 0, 0, 0, 0, 0, 0), 6, 1, 1);
        sure(c, wandering(5, "go 11 t=5;look 0", 0, 0, 0, 0, 0, 0), 6, 1, 2);
        c.about("how likely AT is then 1 more than now, or more");
        x = wandering(5, "go 21 a<9", 0, 0, 0);
        sure(c, x, 3, 1, 1);
        // it goes on, and backs off again: AT is as now
        x = wandering(0, "go 30 t=0;not 10 t=1", 0, 0);
        x.set(AT, 1);
        sure(c, x, 1, 1, 1);
        sure(c, x, 2, 0, 1);
        // at the last place it may go on, and it is OVER then, which it stays
        x = wandering(4, "go 11 t=0;not 90 t>0", 0, 0, 0);
        x.set(AT, 2);
        sure(c, x, 3, 3, 5);
        c.about("SURE when it is OVER: AT is 1 more never");
        x.set(AT, 3);
        sure(c, x, 1, 0, 1);
        sure(c, x, 3, 0, 1);
        x = new DonkeyBridge();
        x.row(6);
        sure(c, x, 1, 0, 1);
    }

    private static void days(Check c, DonkeyBridge x, int n, int learnt, int paid, int at) {
        c.due("days " + n + " learnt", x.days(n, 0), learnt);
        c.due("days " + n + " paid", x.days(n, 1), paid);
        c.due("days " + n + " at", x.days(n, 2), at);
    }

    private static void taught(Check c) {
        c.about("DAYS n (0 .. 99)");
        DonkeyBridge x = road(0, "look 1;not 1 a<9", 0, 99, PAID, 0);
        Check.acts(x, 1);
        c.due("n -1", x.days(-1, 0), -2);
        c.due("n 100", x.days(100, 0), -2);
        x = road(0, "not 99 a<9");
        Check.acts(x, 4);
        for (int n = 0; n <= 19; n++) {
            days(c, x, n, 60 + 5 * n, 5 * n, 0);
        }
        days(c, x, 20, 60 + 99, 99, 0);
        days(c, x, 98, 60 + 99, 99, 0);
        days(c, x, 99, 60 + 99, 99, 0);
        // a day takes 1 of 99: the last of them tells whether all were done
        x = road(0, "not 99 a<9;lead 0", PAID, 99);
        Check.acts(x, 1);
        days(c, x, 97, 60 + 2, 2, 0);
        days(c, x, 98, 60 + 1, 1, 0);
        days(c, x, 99, 60, 0, 0);
        c.about("days: (n 0: as all is)");
        x = road(0, "go 30 a<9", AT, 2, LOOKS, 5, SITS, 1, PAID, 7);
        Check.acts(x, 6);
        days(c, x, 0, 67, 7, 2);
        days(c, Check.with(x, AT, 3), 0, 67, 7, 3);
        c.about("days: AT being 0 as it begins");
        days(c, x, 1, 77, 17, 1);
        x.row(-1);
        days(c, x, 1, 67, 7, 0);
        c.about("days: LOOKS 0 as it begins");
        x = Check.with(Check.road("go 20 a<9", 4, 1, 0), HUNGER, 0, LOOKS, 1);
        Check.acts(x, 0);
        c.due("it would go with its looks", x.would(0), 1);
        days(c, x, 1, 58, 0, 0);
        x = Check.with(Check.road("go 19 a<9;look 0", 4, 4, 0), HUNGER, 0, LOOKS, 9);
        Check.acts(x, 0, 0);
        c.due("it would go with its looks", x.would(0), 1);
        days(c, x, 1, 55, 0, 1);
        c.about("days: it not SITTING as it begins");
        x = road(0, "go 11 a<9", SITS, 1);
        Check.acts(x, 0);
        c.due("it would not go as it sits", x.would(0), 0);
        days(c, x, 1, 55, 0, 1);
        c.about("days: all else as the day ahead left it");
        x = road(0, "go 11 t=1;look 1", 0, 12);
        Check.acts(x, 0);
        days(c, x, 1, 61, 0, 0);
        days(c, x, 2, 60, 0, 0);
        x = road(5, "go 11 w<2;look 0");
        Check.acts(x, 0);
        days(c, x, 1, 55, 0, 1);
        days(c, x, 2, 50, 0, 1);
        days(c, x, 3, 50, 0, 0);
        x = road(0, "go 20 h<31;not 20 h>30", HUNGER, 33);
        Check.acts(x, 4);
        days(c, x, 1, 63, 5, 0);
        days(c, x, 2, 57, 4, 1);
        c.about("days: the whole ROW is done");
        x = road(0, "not 99 a<9");
        Check.acts(x, 4, 4, 4, 4, 4, 4, 4, 4, 4, 4, 4, 4);
        days(c, x, 1, 120, 60, 0);
        days(c, x, 2, 159, 99, 0);
        c.about("days: what 0 LEARNT, 1 PAID, 2 AT. NONE: what; BAD: n");
        c.due("what -1", x.days(0, -1), -1);
        c.due("what 3", x.days(0, 3), -1);
        c.due("NONE and BAD", x.days(100, 3), -1);
        c.due("NONE and BAD, n -1", x.days(-1, -1), -1);
        c.about("DAYS on a road of no PLACES: it is OVER as each begins");
        x = new DonkeyBridge();
        Check.acts(x, 4, 6);
        days(c, x, 99, 60, 0, 0);
        c.about("DAYS go on beyond 9999 HALF MINUTES");
        x = State.LATE.make();
        Check.acts(x, 6, 6, 6, 6, 6, 6, 6, 6, 6, 6, 6, 6);
        days(c, x, 99, 159, 99, 10);
        c.due("gone as before", x.now(GONE), 9999);
        Check.law(x, "ford 99;go 99 t=58;look 0");
        Check.acts(x, 6, 0);
        // a day is 100 half minutes: behind the ford it is 18, 58, 38, 18 .. modulo 60
        for (int n : new int[] {1, 3, 4, 97, 99}) {
            c.due("the day " + n, x.days(n, 2), 1);
        }
        for (int n : new int[] {2, 5, 98}) {
            c.due("the day " + n, x.days(n, 2), 2);
        }
    }

    private static void strings(Check c) {
        c.about("other BEASTS (4 at most), each told by its FEAR (0 .. 99)");
        DonkeyBridge x = road(0, "");
        c.due("fear -2", x.beast(-2), -2);
        c.due("fear 100", x.beast(100), -2);
        c.due("none came", x.count(4), 0);
        c.due("fear 99", x.beast(99), 1);
        c.due("fear 0", x.beast(0), 2);
        c.due("a third", x.beast(50), 3);
        c.due("a fourth", x.beast(50), 4);
        c.due("a fifth", x.beast(0), -4);
        c.due("a fifth that is BAD", x.beast(100), -2);
        c.due("four", x.count(4), 4);
        c.about("beast: (-1: none then, 0)");
        c.due("none then", x.beast(-1), 0);
        c.due("none", x.count(4), 0);
        c.due("none then, again", x.beast(-1), 0);
        c.due("the first again", x.beast(7), 1);

        c.about("WHICH has the least (of several the first)");
        int[][] fears = {{5}, {5, 5}, {5, 4}, {4, 5}, {9, 8, 7, 6}, {6, 7, 8, 9}, {9, 3, 3, 9}, {0, 0, 0, 0}, {99, 99, 99, 98},
            {99, 99, 0, 0}};
        int[] which = {0, 0, 1, 0, 3, 0, 1, 0, 3, 2};
        for (int i = 0; i < fears.length; i++) {
            x = road(0, "");
            for (int fear : fears[i]) {
                x.beast(fear);
            }
            c.due("of row " + i, x.string(0), which[i]);
        }
        c.about("MORE by how much FEAR is above that one's (0 at least), by 10 (cut)");
        int[][] more = {
            // fear, the beast's, more
            {0, 0, 0}, {0, 99, 0}, {10, 10, 0}, {10, 11, 0}, {10, 9, 0}, {9, 0, 0}, {10, 0, 1}, {19, 0, 1}, {20, 0, 2}, {99, 0, 9},
            {99, 9, 9}, {99, 10, 8}, {90, 0, 9}, {89, 0, 8}, {50, 60, 0}, {1, 99, 0}
        };
        for (int[] m : more) {
            x = road(0, "", 0, m[0], 1, 77);
            x.beast(m[1]);
            c.due("fear " + m[0] + " and " + m[1], x.string(1), m[2]);
        }
        c.about("MORE: FEAR (of the THING where it is)");
        x = road(0, "", 0, 10, 1, 40, AT, 1);
        x.beast(0);
        c.due("of THING 1", x.string(1), 4);
        c.about("AHEAD: whether it would GO with 1 then");
        x = road(0, "go 40 a<9;lead 5", 0, 50);
        x.beast(10);
        c.due("40 - 50 + 5 + 4", x.string(2), 0);
        Check.law(x, "go 40 a<9;lead 6");
        c.due("40 - 50 + 6 + 4", x.string(2), 0);
        Check.law(x, "go 40 a<9;lead 7");
        c.due("40 - 50 + 7 + 4", x.string(2), 1);
        c.due("with 1 alone it would not", x.would(1), 0);
        c.about("string: -5: none is told");
        x.beast(-1);
        for (int what = 0; what <= 2; what++) {
            c.due("what " + what, x.string(what), -5);
        }
        c.about("string: NONE; STATE: it is OVER");
        c.due("what -1", x.string(-1), -1);
        c.due("what 3", x.string(3), -1);
        x.set(AT, 3);
        c.due("over, what -1", x.string(-1), -1);
        c.due("over, what 3", x.string(3), -1);
        for (int what = 0; what <= 2; what++) {
            c.due("over, and none is told, what " + what, x.string(what), -3);
        }
        x.beast(5);
        for (int what = 0; what <= 2; what++) {
            c.due("over, what " + what, x.string(what), -3);
        }
    }

    private static DonkeyBridge filmed(DonkeyBridge x, int... seen) {
        x.film(-1);
        for (int s : seen) {
            x.film(s);
        }
        return x;
    }

    private static void films(Check c) {
        c.about("A FILM: what THE DONKEY did (0 .. 3), ACT by ACT of the ROW (12 at most)");
        DonkeyBridge x = new DonkeyBridge();
        c.due("film -2", x.film(-2), -1);
        c.due("film 4", x.film(4), -1);
        c.due("none came", x.count(3), 0);
        for (int i = 1; i <= 12; i++) {
            c.due("film " + i, x.film(i % 4), i);
        }
        c.due("a thirteenth", x.film(0), -4);
        c.due("a thirteenth that is none", x.film(4), -1);
        c.due("twelve", x.count(3), 12);
        c.about("film: (-1: none then, 0)");
        c.due("none then", x.film(-1), 0);
        c.due("none", x.count(3), 0);
        c.due("none then, again", x.film(-1), 0);
        c.due("the first again", x.film(3), 1);

        c.about("OFF: the first ACT (from 0) with which it does otherwise; -5: none");
        int[] drives = {9, 1, 0, -14, -15, -39, -40, -99};
        int[] does = {1, 1, 0, 0, 2, 2, 3, 3};
        for (int i = 0; i < drives.length; i++) {
            String law = drives[i] < 0 ? "not " + -drives[i] + " a<9" : "go " + drives[i] + " a<9";
            for (int seen = 0; seen <= 3; seen++) {
                x = road(0, law, 0, 0);
                Check.acts(x, 0);
                c.due("film " + seen + " with " + drives[i], filmed(x, seen).off(), seen == does[i] ? -5 : 0);
            }
        }
        x = road(0, "look 0");
        Check.acts(x, 0, 0, 0, 0, 0, 0, 0, 0, 0, 0, 0, 0);
        int[] stood = new int[12];
        c.due("all twelve as it does", filmed(x, stood).off(), -5);
        for (int i = 0; i < 12; i++) {
            int[] otherwise = new int[12];
            otherwise[i] = 1;
            otherwise[11] = 1;
            c.due("otherwise with " + i, filmed(x, otherwise).off(), i);
        }
        c.about("OFF: of as many as both have");
        c.due("neither has", new DonkeyBridge().off(), -5);
        c.due("the ROW has none", filmed(road(0, ""), 1).off(), -5);
        x = road(0, "");
        Check.acts(x, 0);
        c.due("the FILM has none", x.off(), -5);
        c.due("the FILM has more", filmed(x, 0, 3).off(), -5);
        Check.acts(x, 0, 0);
        c.due("the ROW has more", filmed(x, 0).off(), -5);
        c.due("both have two", filmed(x, 0, 3).off(), 1);
        c.about("OFF: (with 6 it does 1)");
        for (int seen = 0; seen <= 3; seen++) {
            x = road(0, "not 99 a<9");
            Check.acts(x, 6);
            c.due("film " + seen, filmed(x, seen).off(), seen == 1 ? -5 : 0);
        }
        c.about("OFF: OVER always otherwise");
        for (int seen = 0; seen <= 3; seen++) {
            for (int act = 0; act <= 7; act++) {
                x = road(0, "", AT, 3);
                Check.acts(x, act);
                c.due("film " + seen + " of act " + act, filmed(x, seen).off(), 0);
            }
            x = road(0, "", AT, 2);
            Check.acts(x, 6, 0);
            c.due("film " + seen + " behind the ford", filmed(x, 1, seen).off(), 1);
        }
        c.about("OFF goes on from how all is, half a minute at a time");
        x = road(0, "go 9 a<9;look 3", WEAR, 3);
        Check.acts(x, 0, 0, 0, 0);
        c.due("stands, goes, stands, goes", filmed(x, 0, 1, 0, 1).off(), -5);
        c.due("stands, goes, stands, stands", filmed(x, 0, 1, 0, 0).off(), 3);
    }

    public static void main(String[] args) {
        Check c = new Check("DayEdgeTest");
        wander(c);
        chances(c);
        taught(c);
        strings(c);
        films(c);
        c.end();
    }
}
