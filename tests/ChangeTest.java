import java.util.Map;
import java.util.function.ToLongFunction;

/**
 * Each call that changes something changes what its promise tells, and nothing else: an object is looked at as a whole
 * behind it, beside another that was not called; what differs is named by what may differ, and some of it does.
 */
public final class ChangeTest {
    /** What follows from how THE DONKEY is: what is asked of it, and all by hand. */
    private static final String ASKED = "|told [0-2]|hand .*|off|string .*|judge";

    private final Check c = new Check("ChangeTest");

    private void changes(State s, String call, ToLongFunction<DonkeyBridge> made, String may) {
        DonkeyBridge x = s.make();
        made.applyAsLong(x);
        Map<String, Long> then = Look.atAll(x);
        Map<String, Long> before = Look.atAll(s.make());
        int others = 0;
        for (Map.Entry<String, Long> t : then.entrySet()) {
            boolean other = !t.getValue().equals(before.get(t.getKey()));
            others += other ? 1 : 0;
            if (!t.getKey().matches(may)) {
                c.due("whether " + call + " in state " + s + " changes " + t.getKey(), other ? 1 : 0, 0);
            }
        }
        for (String name : before.keySet()) {
            if (!name.matches(may)) {
                c.due(name + " is there behind " + call + " in state " + s, then.containsKey(name) ? 1 : 0, 1);
            }
        }
        c.due("whether " + call + " in state " + s + " changes anything", others > 0 ? 1 : 0, 1);
    }

    private void road() {
        c.about("place: A PLACE");
        changes(State.MIDWAY, "place", x -> x.place(5, 6, 4), "count 0|of 4 .*|undo count 0");
        changes(State.TEXT_FULL, "place", x -> x.place(5, 6, 4), "count 0|of 2 .*|undo count 0");
        c.about("set: What becomes n");
        for (int what = 0; what <= 13; what++) {
            int w = what;
            String learnt = what <= 6 ? "|now 15" : "";
            changes(State.MIDWAY, "set " + w, x -> x.set(w, w == 13 ? 1 : 2), "now " + w + learnt + ASKED);
        }
        c.about("feed: A sign comes behind THE TEXT's");
        changes(State.MIDWAY, "feed", x -> x.feed('b'), "count 5|undo count 5|text .*");
        c.about("law: THE TEXT, which is empty then, is a LAW, and holds");
        changes(State.TEXT_FULL, "law", DonkeyBridge::law,
            "count [15]|undo count [15]|told .*|text .*|hand .*|off|string .*|judge");
        c.about("law: a FAULT: THE TEXT is empty then");
        changes(State.MIDWAY, "law", DonkeyBridge::law, "count 5|undo count 5|text .*");
    }

    private void acts() {
        c.about("go: The driver does an ACT");
        String may = "now ([0-9]|1[0-5])" + ASKED;
        for (int act = 0; act <= 7; act++) {
            int a = act;
            changes(State.MIDWAY, "go " + a, x -> x.go(a), may);
            changes(State.FULL, "go " + a, x -> x.go(a), may);
        }
        c.about("row: An ACT comes to the ROW");
        for (int act = 0; act <= 7; act++) {
            int a = act;
            changes(State.MIDWAY, "row " + a, x -> x.row(a), "count 2|hand 6 .*|judge");
        }
        c.about("row: (-1: it is empty then, 0)");
        changes(State.MIDWAY, "row -1", x -> x.row(-1), "count 2|hand [1-9].*");
        changes(State.FULL, "row -1", x -> x.row(-1), "count 2|hand [1-9].*|judge");
        c.about("wander: Odds of WANDER become n");
        changes(State.MIDWAY, "wander", x -> x.wander(8), "wander");
        c.about("beast: Another BEAST is told by its FEAR");
        changes(State.MIDWAY, "beast", x -> x.beast(1), "count 4|string .*");
        changes(State.MIDWAY, "beast -1", x -> x.beast(-1), "count 4|string .*");
        changes(State.FULL, "beast -1", x -> x.beast(-1), "count 4|string .*");
        c.about("film: What THE DONKEY did comes to the FILM");
        for (int what = 0; what <= 3; what++) {
            int w = what;
            changes(State.MIDWAY, "film " + w, x -> x.film(w), "count 3|off");
        }
        changes(State.MIDWAY, "film -1", x -> x.film(-1), "count 3");
        changes(State.FULL, "film -1", x -> x.film(-1), "count 3");
    }

    private void images() {
        c.about("image: THE IMAGE is taken");
        for (State s : new State[] {State.MIDWAY, State.OVER, State.FULL, State.LATE}) {
            changes(s, "image", DonkeyBridge::image, "undo.*|text told .*");
        }
        c.about("undo: All is as THE IMAGE (PLACES stay)");
        String may = "now .*|told .*|count [234]|hand .*|off|string .*|judge|wander";
        for (State s : new State[] {State.MIDWAY, State.OVER, State.FULL, State.LATE}) {
            changes(s, "undo", DonkeyBridge::undo, may);
        }
        c.about("part: THE TRACE");
        for (int part = -1; part <= 3; part++) {
            int p = part;
            for (State s : new State[] {State.MIDWAY, State.FULL}) {
                changes(s, "part " + p, x -> x.part(1, p, 9), "trace .*|count 6");
            }
        }
    }

    private void tapes() {
        for (int tape = 0; tape <= 5; tape++) {
            int t = tape;
            String may = "tape " + t + " .*" + (t == 0 ? "|judge" : "");
            c.about("tape: A TAPE becomes a row of n of a sort, all 0, or holds nothing");
            changes(State.MIDWAY, "tape " + t, x -> x.tape(t, 1, 4), may);
            if (t < 5) {
                changes(State.MIDWAY, "tape " + t + " nothing", x -> x.tape(t, -1, 4), may);
                c.about("item: Item i of a TAPE becomes v");
                changes(State.MIDWAY, "item of tape " + t, x -> x.item(t, 2, 1), "tape " + t + " 2" + (t == 0 ? "|judge" : ""));
                c.about("shift: n items come to the same");
                changes(State.MIDWAY, "shift in tape " + t, x -> x.shift(t, 1, t, 0, 2), "tape " + t + " [01]"
                    + (t == 0 ? "|judge" : ""));
            }
        }
        c.about("shift: n items of a TAPE come to another one");
        changes(State.MIDWAY, "shift", x -> {
            x.tape(5, 0, 5);
            return x.shift(0, 2, 5, 1, 3);
        }, "tape 5 .*");
    }

    public static void main(String[] args) {
        ChangeTest t = new ChangeTest();
        t.road();
        t.acts();
        t.images();
        t.tapes();
        t.c.end();
    }
}
