/** Terms 1 (the road, the donkey) and promises 1 to 5: each sentence that names a bound, what is first, what is empty. */
public final class RoadEdgeTest {
    private static final int FEAR = 0, PAID = 6, HUNGER = 7, WEAR = 8, LOOKS = 9, LEFT = 10, RIGHT = 11, AT = 12, SITS = 13;

    private static DonkeyBridge places(int n) {
        DonkeyBridge x = new DonkeyBridge();
        for (int i = 0; i < n; i++) {
            x.place(0, 0, 0);
        }
        return x;
    }

    private static void places(Check c) {
        c.about("PLACES 0 .. 9, as they come");
        DonkeyBridge x = new DonkeyBridge();
        for (int i = 0; i <= 9; i++) {
            c.due("the place that comes next is none yet", x.of(i, 0), -1);
            c.due("place " + i, x.place(0, i, 0), i);
            c.due("it has come", x.of(i, 1), i);
            c.due("how many", x.count(0), i + 1);
        }
        c.due("an eleventh", x.place(0, 0, 0), -4);
        c.due("the last is as it was", x.of(9, 1), 9);
        c.due("the first is as it was", x.of(0, 1), 0);

        c.about("each of a KIND: 0 .. 6");
        for (int kind = 0; kind <= 6; kind++) {
            x = new DonkeyBridge();
            c.due("kind " + kind, x.place(kind, 0, 0), 0);
            c.due("it is of kind " + kind, x.of(0, 0), kind);
        }
        c.due("kind -1", x.place(-1, 0, 0), -1);
        c.due("kind 7", x.place(7, 0, 0), -1);

        c.about("with a number v (0 .. 9)");
        for (int v = 0; v <= 9; v++) {
            x = new DonkeyBridge();
            c.due("v " + v, x.place(0, v, 0), 0);
            c.due("it has v " + v, x.of(0, 1), v);
        }
        c.due("v -1", x.place(0, -1, 0), -2);
        c.due("v 10", x.place(0, 10, 0), -2);

        c.about("and a THING (0 .. 5)");
        for (int thing = 0; thing <= 5; thing++) {
            x = new DonkeyBridge();
            c.due("thing " + thing, x.place(0, 0, thing), 0);
            c.due("it has thing " + thing, x.of(0, 2), thing);
        }
        c.due("thing -1", x.place(0, 0, -1), -1);
        c.due("thing 6", x.place(0, 0, 6), -1);
    }

    private static void over(Check c) {
        c.about("THE DONKEY is before PLACE 0 at first");
        c.due("AT of a new one", new DonkeyBridge().now(AT), 0);
        c.due("AT when places came", places(10).now(AT), 0);

        c.about("AT as many as there are PLACES: it is OVER");
        c.due("no places", new DonkeyBridge().would(0), -5);
        c.due("one place", places(1).would(0), 0);
        c.due("behind one place", Check.with(places(1), AT, 1).would(0), -5);
        c.due("at the last of ten", Check.with(places(10), AT, 9).would(0), 0);
        c.due("behind ten", Check.with(places(10), AT, 10).would(0), -5);
        DonkeyBridge x = Check.with(places(2), AT, 2);
        c.due("behind two", x.would(0), -5);
        x.place(0, 0, 0);
        c.due("a third comes", x.would(0), 0);

        c.about("12 AT (0 .. PLACES)");
        for (int n = 0; n <= 10; n++) {
            x = places(n);
            c.due("one beyond " + n + " places", x.set(AT, n + 1), -2);
            c.due("one below 0 of " + n, x.set(AT, -1), -2);
            c.due("it is where it was", x.now(AT), 0);
            c.due("behind " + n + " places", x.set(AT, n), 0);
            c.due("it is there", x.now(AT), n);
            c.due("back to 0", x.set(AT, 0), n);
        }
    }

    private static void first(Check c) {
        DonkeyBridge x = new DonkeyBridge();
        c.about("FEAR of each THING (10 each at first)");
        for (int thing = 0; thing <= 5; thing++) {
            c.due("fear of " + thing, x.now(FEAR + thing), 10);
        }
        c.about("PAID 0 at first");
        c.due("PAID", x.now(PAID), 0);
        c.about("HUNGER 20 at first");
        c.due("HUNGER", x.now(HUNGER), 20);
        c.about("WEAR 0 at first");
        c.due("WEAR", x.now(WEAR), 0);
        c.about("LOOKS 0 at first");
        c.due("LOOKS", x.now(LOOKS), 0);
        c.about("LOADS on the LEFT and on the RIGHT 0 at first");
        c.due("LEFT", x.now(LEFT), 0);
        c.due("RIGHT", x.now(RIGHT), 0);
        c.about("It SITS, or not (not at first)");
        c.due("SITS", x.now(SITS), 0);
        c.about("HALF MINUTES gone: 0 at first");
        c.due("HALF MINUTES", x.now(14), 0);
        c.about("LEARNT: all FEARS, and PAID, together");
        c.due("LEARNT", x.now(15), 60);
        c.about("No PLACES, no LAW");
        c.due("places", x.count(0), 0);
        c.due("laws", x.count(1), 0);
        c.due("the first law's number", Check.law(x, "hit 1"), 0);
        c.about("odds of WANDER 0 at first");
        c.due("wander", new DonkeyBridge().wander(1), 0);
        c.about("a new object has no ACTS, FILM, STRING, TEXT, TRACE, IMAGE");
        x = new DonkeyBridge();
        for (int what = 2; what <= 6; what++) {
            c.due("count " + what, x.count(what), 0);
        }
        c.due("trace", x.trace(0), -1);
        c.due("undo", x.undo(), -3);
        c.about("TAPES 0 .. 5 hold nothing (at first)");
        for (int tape = 0; tape <= 5; tape++) {
            c.due("item of " + tape, x.item(tape, 0, 1), -11);
            c.due("read of " + tape, x.read(tape, 0), Long.MIN_VALUE);
        }
        c.about("two objects have nothing in common");
        DonkeyBridge other = places(3);
        Check.with(other, FEAR, 50, PAID, 50, AT, 3);
        other.row(1);
        other.tape(0, 0, 3);
        c.due("places of the one", x.count(0), 0);
        c.due("fear of the one", x.now(FEAR), 10);
        c.due("row of the one", x.count(2), 0);
        c.due("tape of the one", x.item(0, 0, 0), -11);
    }

    private static void bounds(Check c) {
        String[] names = {"FEAR of 0", "FEAR of 1", "FEAR of 2", "FEAR of 3", "FEAR of 4", "FEAR of 5", "PAID", "HUNGER",
            "WEAR", "LOOKS", "LEFT", "RIGHT", "AT", "SITS"};
        int[] most = {99, 99, 99, 99, 99, 99, 99, 99, 99, 9, 99, 99, 10, 1};
        for (int what = 0; what < names.length; what++) {
            c.about(names[what] + " is 0 .. " + most[what]);
            DonkeyBridge x = places(10);
            long before = x.now(what);
            c.due("one below", x.set(what, -1), -2);
            c.due("one above", x.set(what, most[what] + 1), -2);
            c.due("it is as it was", x.now(what), before);
            c.due("the most", x.set(what, most[what]), before);
            c.due("it is the most", x.now(what), most[what]);
            c.due("one above the most", x.set(what, most[what] + 1), -2);
            c.due("it is the most still", x.now(what), most[what]);
            c.due("the least", x.set(what, 0), most[what]);
            c.due("it is the least", x.now(what), 0);
            c.due("one below the least", x.set(what, -1), -2);
            c.due("it is the least still", x.now(what), 0);
        }
        c.about("set: what it was; all else stays");
        for (int what = 0; what < names.length; what++) {
            DonkeyBridge x = State.MIDWAY.make();
            DonkeyBridge y = State.MIDWAY.make();
            int n = what == SITS ? 1 : what == AT ? 3 : 8;
            c.due("set " + names[what], x.set(what, n), y.now(what));
            for (int other = 0; other <= 14; other++) {
                c.due(names[what] + " set, now " + other, x.now(other), other == what ? n : y.now(other));
            }
            int more = what <= PAID ? n - y.now(what) : 0;
            c.due(names[what] + " set, LEARNT", x.now(15), y.now(15) + more);
        }
        c.about("set: NONE ahead of BAD: HALF MINUTES and LEARNT are none of what it sets");
        c.due("set 13", places(1).set(13, 1), 0);
        c.due("set 14", places(1).set(14, 0), -1);
        c.due("set 15", places(1).set(15, 0), -1);
        c.due("set -1", places(1).set(-1, 0), -1);
        c.due("set 14 to -1", places(1).set(14, -1), -1);
        c.about("now: as in set(), 14 HALF MINUTES, 15 LEARNT");
        c.due("now -1", places(1).now(-1), -1);
        c.due("now 0", places(1).now(0), 10);
        c.due("now 15", places(1).now(15), 60);
        c.due("now 16", places(1).now(16), -1);
    }

    private static void learnt(Check c) {
        c.about("LEARNT: all FEARS, and PAID, together: the least and the most");
        DonkeyBridge x = Check.with(places(1), 0, 0, 1, 0, 2, 0, 3, 0, 4, 0, 5, 0);
        c.due("none", x.now(15), 0);
        for (int what = 0; what <= PAID; what++) {
            x.set(what, 99);
            c.due("99 up to " + what, x.now(15), 99 * (what + 1));
        }
        Check.with(x, HUNGER, 99, WEAR, 99, LOOKS, 9, LEFT, 99, RIGHT, 99, AT, 1, SITS, 1);
        c.due("nothing else is in it", x.now(15), 693);
    }

    private static void told(Check c) {
        c.about("of: what 0 KIND, 1 v, 2 THING");
        DonkeyBridge x = new DonkeyBridge();
        x.place(6, 9, 5);
        c.due("what -1", x.of(0, -1), -1);
        c.due("KIND", x.of(0, 0), 6);
        c.due("v", x.of(0, 1), 9);
        c.due("THING", x.of(0, 2), 5);
        c.due("what 3", x.of(0, 3), -1);
        c.about("of: no such PLACE");
        c.due("place -1", x.of(-1, 0), -1);
        c.due("place 1 of 1", x.of(1, 0), -1);
        c.about("place: NONE: kind, thing; BAD: v; FULL: 10, in this order");
        x = places(10);
        c.due("kind, v and full", x.place(7, 10, 0), -1);
        c.due("thing, v and full", x.place(0, 10, 6), -1);
        c.due("v and full", x.place(0, 10, 0), -2);
        c.due("full", x.place(0, 9, 0), -4);
    }

    public static void main(String[] args) {
        Check c = new Check("RoadEdgeTest");
        places(c);
        over(c);
        first(c);
        bounds(c);
        learnt(c);
        told(c);
        c.end();
    }
}
