/** Terms 3 (parts, the image) and promises 28 to 33: each sentence that names a bound, what wraps, what is empty. */
public final class PartEdgeTest {
    private static final int LOW = Integer.MIN_VALUE, HIGH = Integer.MAX_VALUE;
    private static final int AT = 12;

    /** Place i of a kind with a v; all ahead of it are STAND. */
    private static DonkeyBridge at(int i, int kind, int v) {
        int[] places = new int[3 * (i + 1)];
        places[3 * i] = kind;
        places[3 * i + 1] = v;
        return Check.road("", places);
    }

    private static void wraps(Check c) {
        c.about("PARTS of a PLACE with x (wrapping)");
        c.due("10: x + i", at(1, 0, 0).part(1, 0, HIGH), LOW);
        c.due("10: x + i at 9", at(9, 0, 0).part(9, 0, HIGH), LOW + 8);
        c.due("10: at the edge", at(9, 0, 0).part(9, 0, HIGH - 9), HIGH);
        c.due("11: holds(x) - v", at(0, 0, 1).part(0, 1, LOW), HIGH);
        c.due("11: holds(x) - v of 9", at(0, 0, 9).part(0, 1, LOW + 8), HIGH);
        c.due("11: at the edge", at(0, 0, 9).part(0, 1, LOW + 9), LOW);
        c.due("12: chooses(x) * 2", at(0, 0, 0).part(0, 2, 1 << 30), LOW);
        c.due("12: chooses(x) * 2, below", at(0, 0, 0).part(0, 2, -(1 << 30) - 1), HIGH - 1);
        c.due("12: at the edge", at(0, 0, 0).part(0, 2, (1 << 30) - 1), HIGH - 1);
        c.due("12: of the least", at(0, 0, 0).part(0, 2, LOW), 0);
        c.due("20: super.chooses(x) ^ 6", at(0, 1, 1).part(0, 1, LOW), HIGH ^ 6);
        c.due("30: super.holds(x * 3)", at(0, 2, 0).part(0, 0, HIGH), HIGH - 2);
        c.due("30: super.holds(x * 3) of the least", at(0, 2, 0).part(0, 0, LOW), LOW);
        c.due("30: at the edge", at(0, 2, 0).part(0, 0, 715827882), HIGH - 1);
        c.due("30: beyond the edge", at(0, 2, 0).part(0, 0, 715827883), LOW + 1);
        c.due("40: super.tells(x) + chooses(1)", at(0, 3, 0).part(0, 2, (1 << 30) - 1), HIGH);
        c.due("40: super.tells(x) + chooses(1), v 9", at(0, 3, 9).part(0, 2, -(1 << 30) + 9), HIGH - 7);
        c.due("50: -super.holds(x) of the least", at(0, 4, 0).part(0, 0, LOW), LOW);
        c.due("50: -super.holds(x) of the most", at(0, 4, 0).part(0, 0, HIGH), -HIGH);
        c.due("51: super.chooses(x + 1)", at(0, 4, 0).part(0, 1, HIGH), LOW ^ 6);
        c.due("60: super.tells(x - i)", at(1, 5, 0).part(1, 2, LOW), (HIGH * 3 + 1) * 2);
        c.due("70: super.chooses(x) + super.holds(2)", at(0, 6, 0).part(0, 1, HIGH), LOW + 1);
        c.due("71: super.holds(x) ^ v", at(0, 6, 9).part(0, 0, LOW), LOW ^ 9);
        c.due("71: super.holds(x) ^ v of the most", at(0, 6, 9).part(0, 0, HIGH), HIGH ^ 9);
    }

    private static void nothing(Check c, int place, int part) {
        DonkeyBridge x = at(3, 6, 5);
        x.part(3, 2, 7);
        c.due("bodies", x.count(6), 12);
        c.due("part " + part + " of place " + place, x.part(place, part, 7), 0);
        c.due("bodies then", x.count(6), 0);
        for (int i = 0; i <= 12; i++) {
            c.due("trace " + i + " then", x.trace(i), -1);
        }
    }

    private static void parts(Check c) {
        c.about("part: 0, and no TRACE then: no such PLACE, part");
        for (int part = 0; part <= 2; part++) {
            for (int place : new int[] {-1, 4, 9, 10, LOW, HIGH}) {
                nothing(c, place, part);
            }
        }
        for (int part : new int[] {-1, 3, LOW, HIGH}) {
            nothing(c, 0, part);
            nothing(c, 3, part);
            nothing(c, 4, part);
        }
        DonkeyBridge x = new DonkeyBridge();
        c.due("no places", x.part(0, 0, 1), 0);
        c.about("part: the first and the last of places and parts");
        x = at(3, 6, 5);
        c.due("place 0 part 0", x.part(0, 0, 7), 7);
        c.due("place 0 part 2", x.part(0, 2, 7), 14);
        c.due("place 3 part 0", x.part(3, 0, 7), (7 + 3) ^ 5);
        c.due("place 3 part 2", x.part(3, 2, 7), (((7 + 3) ^ 5) - 5 + 5) * 2 + (((1 + 3) ^ 5) - 5 + 5));

        c.about("THE TRACE: the numbers of the bodies that ran in the latest part(), as they began");
        int[] longest = {40, 12, 70, 11, 71, 10, 10, 70, 11, 71, 10, 10};
        for (int i = 0; i < longest.length; i++) {
            c.due("trace " + i, x.trace(i), longest[i]);
        }
        c.due("trace 12", x.trace(12), -1);
        c.due("trace 19", x.trace(19), -1);
        c.due("trace 20", x.trace(20), -1);
        c.due("trace -1", x.trace(-1), -1);
        c.due("how many", x.count(6), 12);
        x.part(0, 1, 7);
        c.due("of the latest alone 0", x.trace(0), 11);
        c.due("of the latest alone 1", x.trace(1), 10);
        c.due("of the latest alone 2", x.trace(2), -1);
        c.due("how many of the latest", x.count(6), 2);
        c.about("trace: none ran at first");
        x = new DonkeyBridge();
        c.due("trace 0", x.trace(0), -1);
        c.due("how many", x.count(6), 0);
    }

    private static void taken(Check c) {
        c.about("A PLACE taken for one of KIND k (0 .. 6), or one under that: its KIND. BAD: k; NOTHING: no such PLACE; CAST");
        int[][] under = {{0}, {0, 1}, {0, 2}, {0, 3}, {0, 1, 4}, {0, 2, 5}, {0, 3, 6}};
        for (int kind = 0; kind <= 6; kind++) {
            DonkeyBridge x = at(1, kind, 0);
            for (int k = 0; k <= 6; k++) {
                int due = -12;
                for (int u : under[kind]) {
                    due = u == k ? kind : due;
                }
                c.due("kind " + kind + " taken for " + k, x.taken(1, k), due);
            }
            c.due("k -1", x.taken(1, -1), -2);
            c.due("k 7", x.taken(1, 7), -2);
            c.due("place 2", x.taken(2, kind), -11);
            c.due("place -1", x.taken(-1, kind), -11);
            c.due("k 7 of place 2", x.taken(2, 7), -2);
        }
        c.due("no places", new DonkeyBridge().taken(0, 0), -11);
    }

    private static void counts(Check c) {
        c.about("How many: 0 PLACES, 1 LAWS, 2 ACTS of the ROW, 3 of the FILM, 4 BEASTS, 5 bytes of THE TEXT, 6 bodies. BAD");
        DonkeyBridge x = new DonkeyBridge();
        DonkeyBridge full = State.FULL.make();
        int[] most = {10, 6, 12, 12, 4, 100, 12};
        c.due("count -1", x.count(-1), -2);
        for (int what = 0; what <= 6; what++) {
            c.due("none of " + what, x.count(what), 0);
            c.due("most of " + what, full.count(what), most[what]);
        }
        c.due("count 7", x.count(7), -2);
    }

    private static void images(Check c) {
        c.about("undo: STATE: there is none");
        DonkeyBridge x = new DonkeyBridge();
        c.due("none", x.undo(), -3);
        c.due("none again", x.undo(), -3);
        c.about("THE IMAGE is taken: AT");
        for (int at = 0; at <= 3; at++) {
            x = Check.with(Check.road("", 0, 0, 0, 0, 0, 0, 0, 0, 0), AT, at);
            c.due("image at " + at, x.image(), at);
            c.due("it is where it was", x.now(AT), at);
            x.set(AT, 3 - at);
            c.due("undo at " + at, x.undo(), at);
            c.due("it is as the image", x.now(AT), at);
        }
        c.about("All is as THE IMAGE: each of THE DONKEY's numbers");
        for (int what = 0; what <= 13; what++) {
            x = State.MIDWAY.make();
            long before = x.now(what);
            x.image();
            x.set(what, before == 0 ? 1 : 0);
            x.undo();
            c.due("now " + what, x.now(what), before);
        }
        x = State.MIDWAY.make();
        x.go(6);
        x.image();
        x.go(0);
        x.undo();
        c.due("HALF MINUTES", x.now(14), 3);

        c.about("All is as THE IMAGE: odds of WANDER, the ROW, the FILM, the STRING, which LAW holds; empty and full");
        x = new DonkeyBridge();
        x.place(0, 0, 0);
        x.image();
        fill(x);
        c.due("full", x.count(2) + x.count(3) + x.count(4), 28);
        x.undo();
        c.due("the ROW is empty", x.count(2), 0);
        c.due("the FILM is empty", x.count(3), 0);
        c.due("the STRING is empty", x.count(4), 0);
        c.due("no LAW holds: lead", x.told(3), 3);
        c.due("no LAW holds: GO", x.told(0), 0);
        c.due("no odds", x.wander(0), 0);
        c.due("LAWS stay", x.count(1), 1);
        fill(x);
        x.image();
        x.row(-1);
        x.film(-1);
        x.beast(-1);
        x.wander(0);
        c.due("a law more", Check.law(x, "lead 9"), 2);
        x.undo();
        c.due("the ROW is full", x.count(2), 12);
        c.due("the FILM is full", x.count(3), 12);
        c.due("the STRING is full", x.count(4), 4);
        c.due("the first of the ROW: a FILM as it does", x.off(), -5);
        c.due("the second LAW holds: lead", x.told(3), 77);
        c.due("odds", x.wander(0), 10);
        c.due("a thirteenth", x.row(0), -4);
        c.due("a fifth", x.beast(0), -4);
        c.about("undo: THE IMAGE is there still");
        x.row(-1);
        c.due("undo again", x.undo(), 0);
        c.due("the ROW is full again", x.count(2), 12);

        c.about("(PLACES stay), and so do TAPES, THE TEXT, THE TRACE, and how many LAWS there are");
        x = State.MIDWAY.make();
        x.place(2, 3, 4);
        x.tape(5, 2, 1);
        x.item(5, 0, 8);
        x.feed('b');
        x.part(4, 0, 1);
        c.due("undo", x.undo(), 2);
        c.due("places", x.count(0), 5);
        c.due("kind of the fifth", x.of(4, 0), 2);
        c.due("tape", x.read(5, 0), 8);
        c.due("text", x.count(5), 7);
        c.due("trace", x.trace(0), 30);
        c.due("laws", x.count(1), 2);
        c.due("the next law", Check.law(x, "<1"), -10 - 6);
        c.due("the law after that", Check.law(x, "hit 1"), 2);
        c.about("THE IMAGE taken when it is OVER; a PLACE comes: it is where it was");
        x = Check.with(Check.road("", 0, 0, 0), AT, 1);
        c.due("image", x.image(), 1);
        x.place(0, 0, 0);
        x.set(AT, 0);
        c.due("undo", x.undo(), 1);
        c.due("it is not OVER", x.would(0), 0);
        c.about("the newest IMAGE counts");
        x = Check.with(Check.road("", 0, 0, 0, 0, 0, 0), AT, 1);
        x.image();
        x.set(AT, 2);
        x.image();
        x.set(AT, 0);
        c.due("undo", x.undo(), 2);
    }

    private static void fill(DonkeyBridge x) {
        Check.law(x, "lead 77");
        for (int i = 0; i < 12; i++) {
            x.row(3);
            // 20 less: it backs off, at place 0
            x.film(2);
        }
        for (int i = 0; i < 4; i++) {
            x.beast(i);
        }
        x.wander(10);
    }

    public static void main(String[] args) {
        Check c = new Check("PartEdgeTest");
        wraps(c);
        parts(c);
        taken(c);
        counts(c);
        images(c);
        c.end();
    }
}
