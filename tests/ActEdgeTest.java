/** Terms 2 (acts of the driver) and promises 9 to 13: each sentence that names a bound, a cut, an end. */
public final class ActEdgeTest {
    private static final int PAID = 6, HUNGER = 7, WEAR = 8, LOOKS = 9, LEFT = 10, RIGHT = 11, AT = 12, SITS = 13, GONE = 14;
    private static final int STAND = 0, FEARED = 1, SORE = 2, SPOILT = 3, LOOKING = 4, TIRED = 5, CALLED = 6;

    /** Ten places, of which 4 is of a kind with a v and THING 1; the others are STAND with THING 0; it is at 4. */
    private static DonkeyBridge at(int kind, int v, String law, int... set) {
        int[] places = new int[30];
        places[12] = kind;
        places[13] = v;
        places[14] = 1;
        DonkeyBridge x = Check.road(law, places);
        Check.with(x, 0, 0, 1, 0, HUNGER, 0, AT, 4);
        return Check.with(x, set);
    }

    /** At a place of kind STAND, where DRIVE with 0 is the number told. */
    private static DonkeyBridge driven(int drive, String law, int... set) {
        String go = drive >= 0 ? "go " + Math.min(99, drive) + " a<99" : "not " + Math.min(99, -drive) + " a<99";
        return at(STAND, 0, go + law, set);
    }

    private static int drive(int act, int kind, int v, String law, int... set) {
        return at(kind, v, law, set).drive(act);
    }

    private static void acts(Check c) {
        c.about("ACTS of the driver: 0 .. 7");
        for (int act = 0; act <= 7; act++) {
            DonkeyBridge x = driven(50, "");
            c.due("would " + act, x.would(act), 1);
            c.due("drive " + act, x.drive(act), act == 1 ? 53 : act == 3 ? 30 : act == 7 ? 55 : 50);
            c.due("row " + act, x.row(act), 1);
            c.due("go " + act, x.go(act), 1);
        }
        for (int act : new int[] {-1, 8}) {
            DonkeyBridge x = driven(50, "");
            c.due("would " + act, x.would(act), -1);
            c.due("drive " + act, x.drive(act), -100001);
            c.due("go " + act, x.go(act), -1);
            c.due("it is where it was", x.now(AT), 4);
        }
        c.due("row 8", driven(50, "").row(8), -1);

        c.about("more: 1: lead. 7: hit");
        c.due("lead 0", drive(1, STAND, 0, "lead 0"), 0);
        c.due("lead 99", drive(1, STAND, 0, "lead 99"), 99);
        c.due("hit 0", drive(7, STAND, 0, "hit 0"), 0);
        c.due("hit 99", drive(7, STAND, 0, "hit 99"), 99);
        c.about("more: 4: HUNGER by 2 (cut)");
        int[][] hungers = {{0, 0}, {1, 0}, {2, 1}, {3, 1}, {98, 49}, {99, 49}};
        for (int[] h : hungers) {
            c.due("hunger " + h[0], drive(4, STAND, 0, "", HUNGER, h[0]), h[1]);
        }
        c.about("more: 3: 20 less");
        c.due("nothing but that", drive(3, STAND, 0, ""), -20);
        c.about("DRIVE: of 6 as with 0");
        c.due("6 and all that more is by", drive(6, STAND, 0, "go 7 a=4;lead 99;hit 99", HUNGER, 99, 1, 3), 4);
        c.about("GO, less NOT");
        c.due("less than 0", drive(0, STAND, 0, "go 1 a=4;not 99 a=4"), -98);
        c.due("eight not", drive(0, STAND, 0, "not 99 a=4;not 99 a=4;not 99 a=4;not 99 a=4;not 99 a=4;not 99 a=4;not 99 a=4"),
            -693);
    }

    private static void fears(Check c) {
        c.about("STAND: FEAR of its THING (2: half of it, cut; 3: nothing)");
        int[][] fears = {{0, 0}, {1, 0}, {2, 1}, {3, 1}, {98, 49}, {99, 49}};
        for (int kind = 0; kind <= 6; kind++) {
            int twice = kind == FEARED || kind == LOOKING ? 2 : 1;
            for (int[] f : fears) {
                String which = " at kind " + kind + " with fear " + f[0];
                c.due("0" + which, drive(0, kind, 0, "", 1, f[0]), -f[0] * twice);
                c.due("2" + which, drive(2, kind, 0, "", 1, f[0]), -f[1] * twice);
                c.due("3" + which, drive(3, kind, 0, "", 1, f[0]), -20);
            }
            c.due("of its own thing alone, kind " + kind, drive(0, kind, 0, "", 0, 99, 2, 99, 3, 99, 4, 99, 5, 99), 0);
        }
        c.about("FEARED: that twice");
        c.due("99", drive(0, FEARED, 0, "", 1, 99), -198);
        c.due("half of 99, cut, twice", drive(2, FEARED, 0, "", 1, 99), -98);

        c.about("LOOKING: as FEARED, but v times LOOKS less of it (0 at least)");
        int[][] looks = {
            // fear, v, looks, drive with 0, drive with 2
            {10, 0, 9, -20, -10}, {10, 9, 0, -20, -10}, {10, 4, 5, 0, 0}, {10, 3, 6, -2, 0}, {10, 7, 3, 0, 0},
            {10, 5, 2, -10, 0}, {10, 9, 1, -11, -1}, {99, 9, 9, -117, -17}, {0, 9, 9, 0, 0}, {40, 9, 9, 0, 0},
            {41, 9, 9, -1, 0}, {81, 9, 9, -81, 0}, {83, 9, 9, -85, -1}, {11, 5, 2, -12, 0}, {1, 0, 0, -2, 0}
        };
        for (int[] l : looks) {
            String which = " with fear " + l[0] + ", v " + l[1] + ", looks " + l[2];
            c.due("0" + which, drive(0, LOOKING, l[1], "", 1, l[0], LOOKS, l[2]), l[3]);
            c.due("2" + which, drive(2, LOOKING, l[1], "", 1, l[0], LOOKS, l[2]), l[4]);
            c.due("3" + which, drive(3, LOOKING, l[1], "", 1, l[0], LOOKS, l[2]), -20);
            c.due("0 at FEARED" + which, drive(0, FEARED, l[1], "", 1, l[0], LOOKS, l[2]), -2 * l[0]);
        }
    }

    private static void kinds(Check c) {
        for (int kind = 0; kind <= 6; kind++) {
            c.about("HURT counts at SORE and TIRED alone");
            boolean sore = kind == SORE || kind == TIRED;
            c.due("kind " + kind, drive(0, kind, 0, "hurt 99 a=4;hurt 1 a=4"), sore ? -100 : 0);
            c.about("PAID counts at SPOILT and CALLED alone");
            boolean spoilt = kind == SPOILT || kind == CALLED;
            c.due("kind " + kind, drive(0, kind, 0, "", PAID, 99), spoilt ? -99 : 0);
            c.about("TIRED: WEAR by 2 (cut)");
            for (int wear : new int[] {0, 1, 2, 3, 98, 99}) {
                c.due("wear " + wear + " at kind " + kind, drive(0, kind, 0, "", WEAR, wear), kind == TIRED ? -(wear / 2) : 0);
            }
            c.about("CALLED: v times AT");
            for (int v = 0; v <= 9; v++) {
                c.due("v " + v + " at 4, kind " + kind, drive(0, kind, v, ""), kind == CALLED ? -4 * v : 0);
            }
            c.about("It SITS: DRIVE is 15 less");
            c.due("kind " + kind, drive(0, kind, 0, "", SITS, 1), -15);
            c.due("with 3, kind " + kind, drive(3, kind, 0, "", SITS, 1), -35);
        }
        c.about("CALLED: v times AT: the least and the most");
        c.due("at 0", Check.with(Check.road("", 6, 9, 0), 0, 0).drive(0), 0);
        int[] ten = new int[30];
        ten[27] = CALLED;
        ten[28] = 9;
        c.due("at 9", Check.with(Check.road("", ten), 0, 0, AT, 9).drive(0), -81);
        c.about("all that DRIVE is less by, together");
        c.due("TIRED", drive(0, TIRED, 9, "not 99 a=4;hurt 99 a=4", 1, 99, PAID, 99, WEAR, 99, LOOKS, 9, SITS, 1),
            -99 - 99 - 99 - 49 - 15);
        c.due("CALLED", drive(0, CALLED, 9, "not 99 a=4;hurt 99 a=4", 1, 99, PAID, 99, WEAR, 99, LOOKS, 9, SITS, 1),
            -99 - 99 - 99 - 36 - 15);
    }

    private static void does(Check c) {
        c.about("DRIVE above 0 it GOES; from 0 down to -14 it STANDS; from -15 down to -39 it BACKS off; below that it SITS down");
        int[][] due = {{99, 1}, {2, 1}, {1, 1}, {0, 0}, {-1, 0}, {-13, 0}, {-14, 0}, {-15, 2}, {-16, 2}, {-38, 2}, {-39, 2},
            {-40, 3}, {-41, 3}, {-99, 3}};
        for (int[] d : due) {
            for (int sits = 0; sits <= 1; sits++) {
                // what sits has 15 less, so that it has to be driven on by as much more
                DonkeyBridge x = driven(d[0], sits == 1 ? ";go 15 a<99" : "", SITS, sits);
                c.due("drive, sits " + sits, x.drive(0), d[0]);
                c.due("would with " + d[0] + ", sits " + sits, x.would(0), d[1]);
                c.due("would 6 with " + d[0], x.would(6), 1);
                c.due("go with " + d[0] + ", sits " + sits, x.go(0), d[1]);
                c.due("AT then", x.now(AT), d[1] == 1 ? 5 : d[1] == 2 ? 3 : 4);
                c.due("SITS then", x.now(SITS), d[1] == 3 ? 1 : 0);
                c.due("HALF MINUTES then", x.now(GONE), 1);
            }
        }
    }

    private static int behind(DonkeyBridge x, int act, int what) {
        x.go(act);
        return x.now(what);
    }

    private static void goes(Check c) {
        c.about("GOES: FEAR of the THING 5 less, in its bounds");
        int[][] fears = {{0, 0}, {1, 0}, {4, 0}, {5, 0}, {6, 1}, {90, 85}};
        for (int[] f : fears) {
            c.due("fear " + f[0], behind(driven(99, "", 1, f[0]), 0, 1), f[1]);
        }
        c.due("of the THING there alone", behind(driven(99, "", 0, 50), 0, 0), 50);
        c.about("GOES: WEAR 1 more, in its bounds");
        c.due("wear 0", behind(driven(99, ""), 0, WEAR), 1);
        c.due("wear 98", behind(driven(99, "", WEAR, 98), 0, WEAR), 99);
        c.due("wear 99", behind(driven(99, "", WEAR, 99), 0, WEAR), 99);
        c.about("GOES: LOOKS 0, it does not SIT, AT is 1 more");
        DonkeyBridge x = driven(99, "", LOOKS, 9, SITS, 1, AT, 9);
        c.due("goes", x.go(0), 1);
        c.due("LOOKS", x.now(LOOKS), 0);
        c.due("SITS", x.now(SITS), 0);
        c.due("AT: it is OVER", x.now(AT), 10);
        c.due("it is OVER", x.would(0), -5);
    }

    private static void stands(Check c) {
        c.about("STANDS: FEAR of the THING look less, in its bounds");
        int[][] fears = {{0, 2, 0}, {1, 2, 0}, {2, 2, 0}, {3, 2, 1}, {10, 0, 10}, {10, 10, 0}, {10, 11, 0}, {10, 9, 1}, {9, 99, 0}};
        for (int[] f : fears) {
            DonkeyBridge x = at(STAND, 0, "look " + f[1], 1, f[0], 0, 44);
            c.due("stands", x.go(0), 0);
            c.due("fear " + f[0] + " look " + f[1], x.now(1), f[2]);
            c.due("of the THING there alone", x.now(0), 44);
        }
        c.due("look 2 without", behind(at(STAND, 0, "", 1, 10), 0, 1), 8);
        c.about("STANDS: LOOKS 1 more, in its bounds");
        c.due("looks 0", behind(driven(0, ""), 0, LOOKS), 1);
        c.due("looks 8", behind(driven(0, "", LOOKS, 8), 0, LOOKS), 9);
        c.due("looks 9", behind(driven(0, "", LOOKS, 9), 0, LOOKS), 9);
        c.about("STANDS: (neither with 7)");
        DonkeyBridge x = at(STAND, 0, "look 9;hit 0", 1, 10, LOOKS, 4);
        c.due("stands", x.go(7), 0);
        c.due("looks with 7", x.now(LOOKS), 4);
        c.due("fear with 7", x.now(1), 13);
        for (int act = 0; act <= 5; act++) {
            // with 3 the fear is nothing, but 20 are less
            x = at(STAND, 0, act == 3 ? "look 9;go 15 a=4" : "look 9;lead 0", 1, 10, LOOKS, 4, HUNGER, 1);
            c.due("stands with " + act, x.go(act), 0);
            c.due("looks with " + act, x.now(LOOKS), 5);
            c.due("fear with " + act, x.now(1), 1);
        }
        c.about("STANDS: it does not SIT, also with 7");
        c.due("with 0", behind(driven(10, "", SITS, 1), 0, SITS), 0);
        c.due("with 7", behind(driven(10, ";hit 0", SITS, 1), 7, SITS), 0);
        c.about("STANDS: WEAR and AT stay");
        c.due("wear", behind(driven(0, "", WEAR, 9), 0, WEAR), 9);
        c.due("at", behind(driven(0, ""), 0, AT), 4);
    }

    private static void backs(Check c) {
        c.about("BACKS: AT 1 less (at PLACE 0 it stays there)");
        for (int at = 0; at <= 9; at++) {
            DonkeyBridge x = driven(-20, "", AT, at);
            c.due("backs", x.go(0), 2);
            c.due("from " + at, x.now(AT), Math.max(0, at - 1));
        }
        c.about("BACKS: LOOKS 0");
        c.due("from 4", behind(driven(-20, "", LOOKS, 9), 0, LOOKS), 0);
        c.due("at 0", behind(driven(-20, "", LOOKS, 9, AT, 0), 0, LOOKS), 0);
        c.about("BACKS: it does not SIT");
        c.due("sits", behind(driven(-20, "", SITS, 1), 0, SITS), 0);
        c.due("sits, at 0", behind(driven(-20, "", SITS, 1, AT, 0), 0, SITS), 0);
        c.about("BACKS: FEAR and WEAR stay");
        c.due("fear", behind(driven(0, "", 1, 30), 0, 1), 30);
        c.due("wear", behind(driven(-20, "", WEAR, 30), 0, WEAR), 30);
    }

    private static void sits(Check c) {
        c.about("SITS: it SITS, WEAR 1 less, in its bounds");
        for (int sits = 0; sits <= 1; sits++) {
            c.due("sits", behind(driven(-99, "", SITS, sits), 0, SITS), 1);
            c.due("wear 0", behind(driven(-99, "", SITS, sits), 0, WEAR), 0);
            c.due("wear 1", behind(driven(-99, "", SITS, sits, WEAR, 1), 0, WEAR), 0);
            c.due("wear 2", behind(driven(-99, "", SITS, sits, WEAR, 2), 0, WEAR), 1);
            c.due("wear 99", behind(driven(-99, "", SITS, sits, WEAR, 99), 0, WEAR), 98);
        }
        c.about("SITS: FEAR, LOOKS and AT stay");
        c.due("fear", behind(driven(-99, "", 1, 30), 0, 1), 30);
        c.due("looks", behind(driven(-99, "", LOOKS, 5), 0, LOOKS), 5);
        c.due("at", behind(driven(-99, ""), 0, AT), 4);
        c.due("at 0", behind(driven(-99, "", AT, 0), 0, AT), 0);
    }

    /** What it does with each of these drives: it stands, backs off, sits. */
    private static final int[] NOT_GOING = {-5, -35, -90};

    private static void driver(Check c) {
        for (int drive : NOT_GOING) {
            c.about("4: PAID is 5 more, if it did not GO, in its bounds");
            int[][] paid = {{0, 5}, {93, 98}, {94, 99}, {95, 99}, {99, 99}};
            for (int[] p : paid) {
                c.due("paid " + p[0] + " with " + drive, behind(driven(drive, "", PAID, p[0]), 4, PAID), p[1]);
            }
            c.about("7, if it did not GO: FEAR of the THING 3 more, in its bounds");
            int[][] fears = {{0, 3}, {95, 98}, {96, 99}, {97, 99}, {99, 99}};
            for (int[] f : fears) {
                int go = Math.min(99, f[0]);
                DonkeyBridge x = driven(drive, ";hit 0;go " + go + " a<99", 1, f[0], 0, 20);
                c.due("fear " + f[0] + " with " + drive, behind(x, 7, 1), f[1]);
                c.due("of the THING where it was alone", x.now(0), 20);
            }
            c.about("7, if it did not GO: PAID 2 less, in its bounds");
            int[][] less = {{0, 0}, {1, 0}, {2, 0}, {3, 1}, {99, 97}};
            for (int[] p : less) {
                c.due("paid " + p[0] + " with " + drive, behind(driven(drive, ";hit 0", PAID, p[0]), 7, PAID), p[1]);
            }
            c.about("1, if it did not GO: PAID 1 less, in its bounds");
            int[][] led = {{0, 0}, {1, 0}, {2, 1}, {99, 98}};
            for (int[] p : led) {
                c.due("paid " + p[0] + " with " + drive, behind(driven(drive, ";lead 0", PAID, p[0]), 1, PAID), p[1]);
            }
        }
        c.about("4: else 1 less, in its bounds");
        c.due("paid 0", behind(driven(9, ""), 4, PAID), 0);
        c.due("paid 1", behind(driven(9, "", PAID, 1), 4, PAID), 0);
        c.due("paid 99", behind(driven(9, "", PAID, 99), 4, PAID), 98);
        c.about("7 and 1, if it GOES: PAID stays, FEAR as by GOING");
        c.due("paid with 7", behind(driven(9, "", PAID, 9), 7, PAID), 9);
        c.due("paid with 1", behind(driven(9, "", PAID, 9), 1, PAID), 9);
        c.due("fear with 7", behind(driven(9, "", 1, 8), 7, 1), 3);
        for (int drive : new int[] {9, -5, -35, -90}) {
            c.about("4: HUNGER 3 less, in its bounds, whatever it did");
            int[][] hungers = {{0, 0}, {1, 0}, {2, 0}, {3, 0}, {4, 1}, {99, 96}};
            for (int[] h : hungers) {
                DonkeyBridge x = driven(drive, ";not " + h[0] / 2 + " h=" + h[0], HUNGER, h[0]);
                c.due("hunger " + h[0] + " with " + drive, behind(x, 4, HUNGER), h[1]);
            }
            c.about("5: each LOAD 5 less, in its bounds, whatever it did");
            int[][] loads = {{0, 99, 0, 94}, {4, 5, 0, 0}, {5, 6, 0, 1}, {6, 4, 1, 0}, {99, 0, 94, 0}};
            for (int[] l : loads) {
                DonkeyBridge x = driven(drive, "", LEFT, l[0], RIGHT, l[1]);
                c.due("left " + l[0] + " with " + drive, behind(x, 5, LEFT), l[2]);
                c.due("right " + l[1] + " with " + drive, x.now(RIGHT), l[3]);
            }
            c.about("0, 2, 3: nothing comes of what the driver did");
            for (int act : new int[] {0, 2, 3}) {
                DonkeyBridge x = driven(drive, "", PAID, 9, HUNGER, 9, LEFT, 9, RIGHT, 9);
                x.go(act);
                c.due("act " + act + " with " + drive, x.now(PAID) * 1000 + x.now(HUNGER) * 100 + x.now(LEFT) * 10
                    + x.now(RIGHT), 9999);
            }
        }
        c.about("the THING is always that of the PLACE at which it was");
        // at 4 (THING 1) it backs off to 3 (THING 0), hit
        DonkeyBridge x = driven(-20, ";hit 0");
        c.due("backs", x.go(7), 2);
        c.due("THING 1", x.now(1), 3);
        c.due("THING 0", x.now(0), 0);
        x = driven(9, "", 0, 50, 1, 6);
        c.due("goes", x.go(0), 1);
        c.due("THING 1 where it was", x.now(1), 1);
        c.due("THING 0 where it is", x.now(0), 50);
    }

    private static void bounds(Check c) {
        c.about("All numbers are kept in their bounds, each at once");
        DonkeyBridge x = driven(-90, ";lead 0;hit 0", PAID, 98);
        x.go(4);
        x.go(1);
        c.due("paid 98, 5 more, 1 less", x.now(PAID), 98);
        x = driven(-90, ";lead 0;hit 0", PAID, 1);
        x.go(7);
        x.go(4);
        c.due("paid 1, 2 less, 5 more", x.now(PAID), 5);
        x = driven(99, "", WEAR, 99);
        x.go(0);
        Check.law(x, "not 99 a<99");
        x.go(0);
        c.due("wear 99, 1 more, 1 less", x.now(WEAR), 98);
        x = driven(0, "", LOOKS, 9);
        x.go(0);
        x.go(0);
        c.due("looks 9, 1 more twice", x.now(LOOKS), 9);
        x = at(STAND, 0, "look 99;hit 0", 1, 10);
        x.go(0);
        x.go(7);
        c.due("fear 10, 99 less, 3 more", x.now(1), 3);
        x = driven(-90, ";hit 0", 1, 98);
        x.go(7);
        Check.law(x, "go 99 a<99;go 99 a<99");
        x.go(0);
        c.due("fear 98, 3 more, 5 less", x.now(1), 94);
    }

    private static void ford(Check c) {
        c.about("with 6 all that comes of it is: AT 1 more, LOOKS 0, it does not SIT, PAID 10 more");
        for (int drive : new int[] {9, -5, -35, -90}) {
            int[][] paid = {{0, 10}, {88, 98}, {89, 99}, {90, 99}, {99, 99}};
            for (int[] p : paid) {
                DonkeyBridge x = driven(drive, "", 1, 7, PAID, p[0], HUNGER, 8, WEAR, 9, LOOKS, 9, LEFT, 5, RIGHT, 6, SITS, 1);
                c.due("goes with " + drive, x.go(6), 1);
                int[] due = {0, 7, 10, 10, 10, 10, p[1], 8, 9, 0, 5, 6, 5, 0, 9};
                for (int what = 0; what < due.length; what++) {
                    c.due("paid " + p[0] + ", now " + what, x.now(what), due[what]);
                }
            }
        }
        c.about("ford HALF MINUTES (0 as 1) are gone");
        for (int ford : new int[] {0, 1, 2, 98, 99}) {
            c.due("ford " + ford, behind(driven(0, ";ford " + ford), 6, GONE), Math.max(1, ford));
            c.due("ford " + ford + " with another act", behind(driven(0, ";ford " + ford), 0, GONE), 1);
        }
        c.due("ford 9 without", behind(State.TEXT_FULL.make(), 6, GONE), 9);
    }

    private static void over(Check c) {
        c.about("If it is OVER, nothing happens, and no HALF MINUTE is gone");
        for (int act = 0; act <= 7; act++) {
            DonkeyBridge x = driven(9, "", 1, 9, PAID, 9, HUNGER, 9, WEAR, 9, LOOKS, 9, LEFT, 9, RIGHT, 9, SITS, 1, AT, 10);
            c.due("would " + act, x.would(act), -5);
            c.due("go " + act, x.go(act), -5);
            int[] due = {0, 9, 10, 10, 10, 10, 9, 9, 9, 9, 9, 9, 10, 1, 0};
            for (int what = 0; what < due.length; what++) {
                c.due("go " + act + ", now " + what, x.now(what), due[what]);
            }
        }
    }

    /** So many half minutes are gone, from 9901 to 9999; the newest law has this ford. */
    private static DonkeyBridge late(int gone, int ford) {
        DonkeyBridge x = Check.road("ford 99", 0, 0, 0, 0, 0, 0, 0, 0, 0, 0, 0, 0);
        for (int i = 0; i < 100; i++) {
            x.set(AT, 0);
            x.go(6);
        }
        x.set(AT, 0);
        if (gone > 9900) {
            Check.law(x, "ford " + (gone - 9900));
            x.go(6);
        }
        Check.law(x, "ford " + ford + ";go 99 a<9");
        return x;
    }

    private static void latest(Check c) {
        c.about("go: STATE: HALF MINUTES would be above 9999");
        for (int act : new int[] {0, 1, 2, 3, 4, 5, 7}) {
            DonkeyBridge x = late(9998, 99);
            c.due("9998 are gone", x.now(GONE), 9998);
            c.due("act " + act + " may be", x.go(act), 1);
            c.due("9999 are gone", x.now(GONE), 9999);
            c.due("act " + act + " may not be", x.go(act), -3);
            c.due("9999 are gone still", x.now(GONE), 9999);
            c.due("it is where it was", x.now(AT), 2);
        }
        c.about("go: STATE: with 6 ford HALF MINUTES, 0 as 1");
        int[][] fords = {{9998, 0, 1}, {9998, 1, 1}, {9998, 2, -3}, {9999, 0, -3}, {9999, 1, -3}, {9989, 10, 1}, {9989, 11, -3},
            {9901, 98, 1}, {9901, 99, -3}, {9900, 99, 1}, {9999, 99, -3}};
        for (int[] f : fords) {
            DonkeyBridge x = late(f[0], f[1]);
            int at = x.now(AT);
            c.due("ford " + f[1] + " at " + f[0], x.go(6), f[2]);
            c.due("gone then", x.now(GONE), f[2] == 1 ? f[0] + Math.max(1, f[1]) : f[0]);
            c.due("AT then", x.now(AT), f[2] == 1 ? at + 1 : at);
        }
        c.about("go: STATE (ahead of -5)");
        DonkeyBridge x = Check.with(late(9998, 2), AT, 4);
        c.due("0 when over: -5", x.go(0), -5);
        c.due("6 when over: STATE", x.go(6), -3);
        Check.law(x, "ford 1");
        c.due("6 with ford 1 when over: -5", x.go(6), -5);
        x = Check.with(late(9999, 0), AT, 4);
        for (int act = 0; act <= 7; act++) {
            c.due(act + " at 9999 when over", x.go(act), -3);
        }
        c.due("NONE ahead of STATE", x.go(8), -1);
        c.due("would is not refused", x.would(0), -5);
        c.about("what is asked goes on beyond 9999");
        x = late(9999, 50);
        Check.acts(x, 6, 0);
        c.due("would", x.would(0), 1);
        c.due("hand", x.hand(2, GONE), 9999 + 51);
        c.due("waits", x.waits(), 1);
    }

    private static void rows(Check c) {
        c.about("A ROW of ACTS told by hand (12 at most)");
        DonkeyBridge x = driven(0, "");
        for (int i = 1; i <= 12; i++) {
            c.due("act " + i, x.row(i % 8), i);
        }
        c.due("a thirteenth", x.row(0), -4);
        c.due("a thirteenth that is none", x.row(8), -1);
        c.due("twelve", x.count(2), 12);
        c.about("row: (-1: it is empty then, 0)");
        c.due("empty", x.row(-1), 0);
        c.due("none", x.count(2), 0);
        c.due("empty again", x.row(-1), 0);
        c.due("the first again", x.row(7), 1);

        c.about("BY HAND, the first n (0 .. as many as there are)");
        x = driven(0, "");
        c.due("0 of none", x.hand(0, 9), 0);
        c.due("1 of none", x.hand(1, 9), -2);
        Check.acts(x, 0, 0, 0, 0, 0, 0, 0, 0, 0, 0, 0, 0);
        for (int n = 0; n <= 12; n++) {
            c.due("looks behind " + n, x.hand(n, LOOKS), Math.min(9, n));
            c.due("half minutes behind " + n, x.hand(n, GONE), n);
        }
        c.due("-1", x.hand(-1, GONE), -2);
        c.due("13", x.hand(13, GONE), -2);
        c.about("hand: what (as in now())");
        for (int what = 0; what <= 15; what++) {
            c.due("what " + what, x.hand(0, what), x.now(what));
        }
        c.due("what -1", x.hand(0, -1), -1);
        c.due("what 16", x.hand(0, 16), -1);
        c.due("NONE ahead of BAD", x.hand(13, 16), -1);
        c.about("BY HAND: when it is OVER nothing happens any more");
        x = Check.with(driven(9, ""), AT, 9, PAID, 50);
        Check.acts(x, 0, 4, 6, 7, 5);
        for (int n = 1; n <= 5; n++) {
            c.due("half minutes behind " + n, x.hand(n, GONE), 1);
            c.due("paid behind " + n, x.hand(n, PAID), 50);
            c.due("at behind " + n, x.hand(n, AT), 10);
        }
    }

    public static void main(String[] args) {
        Check c = new Check("ActEdgeTest");
        acts(c);
        fears(c);
        kinds(c);
        does(c);
        goes(c);
        stands(c);
        backs(c);
        sits(c);
        driver(c);
        bounds(c);
        ford(c);
        over(c);
        latest(c);
        rows(c);
        c.end();
    }
}
