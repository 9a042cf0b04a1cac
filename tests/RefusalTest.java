import java.util.EnumMap;
import java.util.Map;
import java.util.function.ToLongFunction;

/**
 * "Answers: NONE, BAD, STATE, FULL; the first that a call's words name. What is answered so changes nothing":
 * each refused call of promises 2 to 37, in each state that it is refused in, the first value beyond each bound and
 * far ones; behind it an object is looked at as a whole, and is as another that was not called.
 */
public final class RefusalTest {
    private static final int LOW = Integer.MIN_VALUE, HIGH = Integer.MAX_VALUE;
    private static final int NONE = -1, BAD = -2, STATE = -3, FULL = -4;
    private static final int NOTHING = -11, CAST = -12, PLACE = -13, SIZE = -14;
    private static final int FAR_NONE = -100001, FAR_STATE = -100003;
    private static final long NO = Long.MIN_VALUE;

    private static final State[] ALL = State.values();
    private static final State[] OVER = {State.NEW, State.OVER, State.LATE_OVER};
    private static final State[] ON_THE_ROAD = {State.MIDWAY, State.FULL, State.TEXT_FULL, State.LATE};
    private static final State[] LATE = {State.LATE, State.LATE_OVER};
    private static final State[] MIDWAY = {State.MIDWAY};
    private static final State[] IS_FULL = {State.FULL};

    private final Check c = new Check("RefusalTest");
    private final Map<State, Map<String, Long>> asItWas = new EnumMap<>(State.class);

    private void refused(State[] states, String call, ToLongFunction<DonkeyBridge> made, long due) {
        for (State s : states) {
            DonkeyBridge x = s.make();
            c.due(call + " in state " + s, made.applyAsLong(x), due);
            Map<String, Long> before = asItWas.computeIfAbsent(s, as -> Look.atAll(as.make()));
            c.dueAll("what is behind " + call + " in state " + s, Look.atAll(x), before);
        }
    }

    private static int[] beyond(int low, int high) {
        return new int[] {low - 1, high + 1, LOW, HIGH};
    }

    private void places() {
        c.about("place: NONE: kind, thing; BAD: v; FULL: 10");
        for (int kind : beyond(0, 6)) {
            refused(ALL, "place of kind " + kind, x -> x.place(kind, 0, 0), NONE);
            refused(ALL, "place of kind " + kind + ", v 10", x -> x.place(kind, 10, 5), NONE);
        }
        for (int thing : beyond(0, 5)) {
            refused(ALL, "place of thing " + thing, x -> x.place(6, 9, thing), NONE);
            refused(ALL, "place of thing " + thing + ", v -1", x -> x.place(6, -1, thing), NONE);
        }
        for (int v : beyond(0, 9)) {
            refused(ALL, "place of v " + v, x -> x.place(0, v, 0), BAD);
        }
        State[] ten = {State.FULL, State.LATE, State.LATE_OVER};
        refused(ten, "an eleventh place", x -> x.place(0, 0, 0), FULL);
        refused(ten, "an eleventh place with all at their most", x -> x.place(6, 9, 5), FULL);

        c.about("of: NONE");
        for (int place : new int[] {-1, LOW, HIGH, 10}) {
            refused(ALL, "of place " + place, x -> x.of(place, 0), NONE);
        }
        refused(MIDWAY, "of the place that comes next", x -> x.of(4, 0), NONE);
        refused(new State[] {State.NEW}, "of place 0 of none", x -> x.of(0, 0), NONE);
        for (int what : beyond(0, 2)) {
            refused(ALL, "of what " + what, x -> x.of(0, what), NONE);
        }
    }

    private void numbers() {
        c.about("set: NONE; BAD");
        int[] most = {99, 99, 99, 99, 99, 99, 99, 99, 99, 9, 99, 99, 10, 1};
        for (int what : beyond(0, 13)) {
            refused(ALL, "set " + what, x -> x.set(what, 1), NONE);
            refused(ALL, "set " + what + " to 100", x -> x.set(what, 100), NONE);
        }
        for (int what = 0; what < most.length; what++) {
            int w = what;
            for (int n : beyond(0, most[what])) {
                refused(ALL, "set " + w + " to " + n, x -> x.set(w, n), BAD);
            }
        }
        c.about("AT (0 .. PLACES)");
        refused(new State[] {State.NEW}, "set 12 to 1", x -> x.set(12, 1), BAD);
        refused(new State[] {State.MIDWAY, State.OVER}, "set 12 to 5", x -> x.set(12, 5), BAD);
        refused(new State[] {State.TEXT_FULL}, "set 12 to 3", x -> x.set(12, 3), BAD);
        c.about("now: NONE");
        for (int what : beyond(0, 15)) {
            refused(ALL, "now " + what, x -> x.now(what), NONE);
        }
    }

    private void laws() {
        c.about("feed: BAD; FULL");
        for (int sign : beyond(0, 127)) {
            refused(ALL, "feed " + sign, x -> x.feed(sign), BAD);
        }
        State[] full = {State.FULL, State.TEXT_FULL};
        refused(full, "feed 0", x -> x.feed(0), FULL);
        refused(full, "feed 127", x -> x.feed(127), FULL);
        c.about("law: FULL: there are 6 (THE TEXT stays)");
        refused(IS_FULL, "law", DonkeyBridge::law, FULL);
        c.about("told: NONE; STATE: of 0, 1, 2, if it is OVER");
        for (int what : beyond(0, 6)) {
            refused(ALL, "told " + what, x -> x.told(what), NONE);
        }
        for (int what = 0; what <= 2; what++) {
            int w = what;
            refused(OVER, "told " + w, x -> x.told(w), STATE);
        }
    }

    private void acts() {
        for (int act : beyond(0, 7)) {
            c.about("drive: -100001: NONE; -100003: STATE: it is OVER");
            refused(ALL, "drive " + act, x -> x.drive(act), FAR_NONE);
            c.about("would: NONE");
            refused(ALL, "would " + act, x -> x.would(act), NONE);
            c.about("go: NONE; STATE");
            refused(ALL, "go " + act, x -> x.go(act), NONE);
            if (act != -1) {
                c.about("row: NONE; FULL: 12");
                refused(ALL, "row " + act, x -> x.row(act), NONE);
            }
        }
        refused(ALL, "row -2", x -> x.row(-2), NONE);
        for (int act = 0; act <= 7; act++) {
            int a = act;
            c.about("drive: STATE: it is OVER");
            refused(OVER, "drive " + a, x -> x.drive(a), FAR_STATE);
            c.about("would: OVER: -5");
            refused(OVER, "would " + a, x -> x.would(a), -5);
            c.about("go: HALF MINUTES would be above 9999 (ahead of -5)");
            refused(LATE, "go " + a, x -> x.go(a), STATE);
            c.about("If it is OVER, nothing happens, and no HALF MINUTE is gone");
            refused(new State[] {State.NEW, State.OVER}, "go " + a, x -> x.go(a), -5);
            c.about("row: FULL: 12");
            refused(IS_FULL, "row " + a, x -> x.row(a), FULL);
        }
        c.about("hand: NONE; BAD");
        for (int what : beyond(0, 15)) {
            refused(ALL, "hand 0 " + what, x -> x.hand(0, what), NONE);
            refused(ALL, "hand -1 " + what, x -> x.hand(-1, what), NONE);
        }
        for (int n : beyond(0, 12)) {
            refused(ALL, "hand " + n, x -> x.hand(n, 0), BAD);
        }
        refused(MIDWAY, "hand 6 of 5", x -> x.hand(6, 15), BAD);
        refused(new State[] {State.NEW, State.TEXT_FULL}, "hand 1 of 0", x -> x.hand(1, 0), BAD);
        refused(LATE, "hand 3 of 2", x -> x.hand(3, 0), BAD);
    }

    private void rows() {
        c.about("soonest: NONE: what; BAD: k; STATE: it is OVER");
        for (int what : beyond(-1, 3)) {
            refused(ALL, "soonest 4 " + what, x -> x.soonest(4, what), NONE);
            refused(ALL, "soonest 5 " + what, x -> x.soonest(5, what), NONE);
        }
        for (int k : beyond(0, 4)) {
            refused(ALL, "soonest " + k, x -> x.soonest(k, -1), BAD);
        }
        for (int k : new int[] {0, 1, 4}) {
            refused(OVER, "soonest " + k, x -> x.soonest(k, 0), STATE);
        }
        c.about("gentlest: BAD: n; NONE: what; STATE: it is OVER");
        for (int n : beyond(1, 4)) {
            refused(ALL, "gentlest " + n, x -> x.gentlest(n, 0), BAD);
            refused(ALL, "gentlest " + n + " -2", x -> x.gentlest(n, -2), BAD);
        }
        for (int n = 1; n <= 4; n++) {
            int many = n;
            for (int what : beyond(-1, n - 1)) {
                refused(ALL, "gentlest " + n + " " + what, x -> x.gentlest(many, what), NONE);
            }
            refused(OVER, "gentlest " + n, x -> x.gentlest(many, -1), STATE);
            refused(OVER, "gentlest " + n + " of the last", x -> x.gentlest(many, many - 1), STATE);
        }
        c.about("why: -5 OVER");
        refused(OVER, "why", DonkeyBridge::why, -5);
        c.about("waits: STATE: it is OVER");
        refused(OVER, "waits", DonkeyBridge::waits, STATE);
        c.about("round: STATE: it is OVER");
        refused(OVER, "round", DonkeyBridge::round, STATE);
        c.about("shiftLoad: -100003: STATE: it is OVER");
        refused(OVER, "shiftLoad", DonkeyBridge::shiftLoad, FAR_STATE);
    }

    private void chances() {
        c.about("wander: BAD");
        for (int n : beyond(0, 10)) {
            refused(ALL, "wander " + n, x -> x.wander(n), BAD);
        }
        c.about("sure: NO: n (1 .. 6; as many as the ROW has), part");
        for (int n : beyond(1, 6)) {
            refused(ALL, "sure " + n, x -> x.sure(n, 0), NO);
        }
        for (int part : beyond(0, 1)) {
            refused(ALL, "sure 1 part " + part, x -> x.sure(1, part), NO);
        }
        refused(MIDWAY, "sure 6 of 5", x -> x.sure(6, 0), NO);
        refused(new State[] {State.NEW, State.TEXT_FULL}, "sure 1 of 0", x -> x.sure(1, 1), NO);
        refused(LATE, "sure 3 of 2", x -> x.sure(3, 1), NO);
        c.about("days: NONE: what; BAD: n");
        for (int what : beyond(0, 2)) {
            refused(ALL, "days 1 " + what, x -> x.days(1, what), NONE);
            refused(ALL, "days 100 " + what, x -> x.days(100, what), NONE);
        }
        for (int n : beyond(0, 99)) {
            refused(ALL, "days " + n, x -> x.days(n, 2), BAD);
        }
        c.about("beast: BAD; FULL: 4");
        for (int fear : new int[] {-2, 100, LOW, HIGH}) {
            refused(ALL, "beast " + fear, x -> x.beast(fear), BAD);
        }
        refused(IS_FULL, "beast 0", x -> x.beast(0), FULL);
        refused(IS_FULL, "beast 99", x -> x.beast(99), FULL);
        c.about("string: NONE; STATE: it is OVER");
        for (int what : beyond(0, 2)) {
            refused(ALL, "string " + what, x -> x.string(what), NONE);
        }
        for (int what = 0; what <= 2; what++) {
            int w = what;
            refused(OVER, "string " + w, x -> x.string(w), STATE);
        }
        c.about("film: NONE; FULL: 12");
        for (int what : new int[] {-2, 4, LOW, HIGH}) {
            refused(ALL, "film " + what, x -> x.film(what), NONE);
        }
        for (int what = 0; what <= 3; what++) {
            int w = what;
            refused(IS_FULL, "film " + w, x -> x.film(w), FULL);
        }
    }

    private void images() {
        c.about("judge: NONE: tape; CAST: it is no row of bytes");
        for (int tape : beyond(0, 5)) {
            refused(ALL, "judge tape " + tape, x -> x.judge(tape, 0), NONE);
            refused(ALL, "judge tape " + tape + " from -1", x -> x.judge(tape, -1), NONE);
        }
        for (int tape = 1; tape <= 4; tape++) {
            int t = tape;
            refused(MIDWAY, "judge tape " + t, x -> x.judge(t, 0), CAST);
            refused(IS_FULL, "judge tape " + t + " from -1", x -> x.judge(t, -1), CAST);
        }
        c.about("undo: STATE: there is none");
        refused(new State[] {State.NEW}, "undo", DonkeyBridge::undo, STATE);
        c.about("trace: NONE");
        for (int i : new int[] {-1, 12, 20, LOW, HIGH}) {
            refused(ALL, "trace " + i, x -> x.trace(i), NONE);
        }
        refused(new State[] {State.NEW, State.TEXT_FULL, State.LATE}, "trace 0 of none", x -> x.trace(0), NONE);
        c.about("taken: BAD: k; NOTHING: no such PLACE; CAST");
        for (int k : beyond(0, 6)) {
            refused(ALL, "place 0 taken for kind " + k, x -> x.taken(0, k), BAD);
            refused(ALL, "place -1 taken for kind " + k, x -> x.taken(-1, k), BAD);
        }
        for (int place : new int[] {-1, 10, LOW, HIGH}) {
            refused(ALL, "place " + place + " taken", x -> x.taken(place, 0), NOTHING);
        }
        refused(MIDWAY, "place 4 taken for kind 6", x -> x.taken(4, 6), NOTHING);
        refused(MIDWAY, "a STAND taken for a CALLED", x -> x.taken(0, 6), CAST);
        refused(MIDWAY, "a CALLED taken for a FEARED", x -> x.taken(3, 1), CAST);
        c.about("count: BAD");
        for (int what : beyond(0, 6)) {
            refused(ALL, "count " + what, x -> x.count(what), BAD);
        }
    }

    private void tapes() {
        c.about("tape: NONE: tape; BAD: sort, n above 60; SIZE");
        for (int tape : beyond(0, 5)) {
            refused(ALL, "tape " + tape, x -> x.tape(tape, 0, 1), NONE);
            refused(ALL, "tape " + tape + " of sort 5", x -> x.tape(tape, 5, 61), NONE);
            refused(ALL, "tape " + tape + " of sort -1", x -> x.tape(tape, -1, 0), NONE);
        }
        for (int tape = 0; tape <= 5; tape += 5) {
            int t = tape;
            for (int sort : beyond(-1, 4)) {
                refused(ALL, "tape " + t + " of sort " + sort, x -> x.tape(t, sort, 1), BAD);
                refused(ALL, "tape " + t + " of sort " + sort + " and size", x -> x.tape(t, sort, -1), BAD);
            }
            for (int sort = 0; sort <= 4; sort++) {
                int as = sort;
                refused(ALL, "tape " + t + " of sort " + as + " of 61", x -> x.tape(t, as, 61), BAD);
                refused(ALL, "tape " + t + " of sort " + as + " of most", x -> x.tape(t, as, HIGH), BAD);
                refused(ALL, "tape " + t + " of sort " + as + " of -1", x -> x.tape(t, as, -1), SIZE);
                refused(ALL, "tape " + t + " of sort " + as + " of least", x -> x.tape(t, as, LOW), SIZE);
            }
        }
        c.about("item: NONE; NOTHING; PLACE");
        for (int tape : beyond(0, 5)) {
            refused(ALL, "item of tape " + tape, x -> x.item(tape, -1, 7), NONE);
        }
        refused(ALL, "item of tape 5", x -> x.item(5, 0, 7), NOTHING);
        refused(ALL, "item -1 of tape 5", x -> x.item(5, -1, 7), NOTHING);
        for (int tape = 0; tape <= 4; tape++) {
            int t = tape;
            for (int i : beyond(0, tape == 0 ? 4 : 2)) {
                refused(MIDWAY, "item " + i + " of tape " + t, x -> x.item(t, i, -1), PLACE);
            }
        }
        c.about("read: NO: no such TAPE, nothing there, no such place");
        for (int tape : beyond(0, 5)) {
            refused(ALL, "read of tape " + tape, x -> x.read(tape, 0), NO);
        }
        refused(ALL, "read of tape 5", x -> x.read(5, 0), NO);
        for (int i : beyond(0, 4)) {
            refused(ALL, "read " + i + " of tape 0", x -> x.read(0, i), NO);
        }
    }

    private void shifts() {
        c.about("shift: NONE: tapes; NOTHING; CAST: of unlike sorts; PLACE: n, i or j is below 0, or beyond either's end");
        for (int tape : beyond(0, 5)) {
            refused(ALL, "shift of tape " + tape, x -> x.shift(tape, 0, 0, 0, 1), NONE);
            refused(ALL, "shift to tape " + tape, x -> x.shift(0, 0, tape, 0, 1), NONE);
            refused(ALL, "shift of nothing to tape " + tape, x -> x.shift(5, -1, tape, -1, -1), NONE);
        }
        refused(ALL, "shift of nothing", x -> x.shift(5, -1, 0, -1, -1), NOTHING);
        refused(ALL, "shift to nothing", x -> x.shift(0, -1, 5, -1, -1), NOTHING);
        refused(ALL, "shift of nothing to itself", x -> x.shift(5, 0, 5, 0, 0), NOTHING);
        for (int tape = 0; tape <= 4; tape++) {
            for (int other = 0; other <= 4; other++) {
                int t = tape;
                int o = other;
                if (t != o) {
                    refused(MIDWAY, "shift of " + t + " to " + o, x -> x.shift(t, 0, o, 0, 1), CAST);
                    refused(MIDWAY, "shift of " + t + " to " + o + ", no place", x -> x.shift(t, -1, o, 9, -1), CAST);
                }
            }
        }
        int[][] nowhere = {{0, 0, -1}, {0, 0, LOW}, {-1, 0, 0}, {0, -1, 0}, {-1, 0, 1}, {0, -1, 1}, {LOW, 0, 1},
            {0, LOW, 1}, {6, 0, 0}, {0, 6, 0}, {5, 0, 1}, {0, 5, 1}, {0, 0, 6}, {1, 0, 5}, {0, 1, 5}, {3, 0, 3},
            {0, 3, 3}, {HIGH, 0, 1}, {0, HIGH, 1}, {0, 0, HIGH}, {1, 1, HIGH}, {HIGH, HIGH, HIGH}, {5, 5, HIGH}};
        for (int[] told : nowhere) {
            String call = "shift of " + told[2] + " from " + told[0] + " to " + told[1];
            refused(MIDWAY, call, x -> x.shift(0, told[0], 0, told[1], told[2]), PLACE);
        }
    }

    /** What a state that is on the road is not refused, so that the refusals above are not by chance. */
    private void onTheRoad() {
        c.about("refused only if it is OVER");
        for (State s : ON_THE_ROAD) {
            DonkeyBridge x = s.make();
            c.due("told 0 in state " + s, x.told(0) >= 0 ? 1 : 0, 1);
            c.due("drive 0 in state " + s, x.drive(0) > -1000 ? 1 : 0, 1);
            c.due("would 0 in state " + s, x.would(0) >= 0 ? 1 : 0, 1);
            c.due("soonest in state " + s, x.soonest(1, 0) == STATE ? 1 : 0, 0);
            c.due("gentlest in state " + s, x.gentlest(1, 0) == STATE ? 1 : 0, 0);
            c.due("waits in state " + s, x.waits() == STATE ? 1 : 0, 0);
            c.due("round in state " + s, x.round() >= 0 ? 1 : 0, 1);
            c.due("shiftLoad in state " + s, Math.abs(x.shiftLoad()) <= 99 ? 1 : 0, 1);
            c.due("string in state " + s, x.string(0) == STATE ? 1 : 0, 0);
        }
    }

    public static void main(String[] args) {
        RefusalTest t = new RefusalTest();
        t.places();
        t.numbers();
        t.laws();
        t.acts();
        t.rows();
        t.chances();
        t.images();
        t.tapes();
        t.shifts();
        t.onTheRoad();
        t.c.end();
    }
}
