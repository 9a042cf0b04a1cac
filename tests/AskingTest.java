import java.util.EnumMap;
import java.util.Map;
import java.util.function.ToLongFunction;

/**
 * "What is asked changes nothing": each call that asks, in each state, with all that it may be told; behind it an
 * object is looked at as a whole, and is as another that was not asked. Asked twice, it answers alike.
 */
public final class AskingTest {
    private final Check c = new Check("AskingTest");
    private final Map<State, Map<String, Long>> asItWas = new EnumMap<>(State.class);

    private void asked(String call, ToLongFunction<DonkeyBridge> asked) {
        for (State s : State.values()) {
            DonkeyBridge x = s.make();
            long first = asked.applyAsLong(x);
            c.due(call + " once more in state " + s, asked.applyAsLong(x), first);
            Map<String, Long> before = asItWas.computeIfAbsent(s, as -> Look.atAll(as.make()));
            c.dueAll("what is behind " + call + " in state " + s, Look.atAll(x), before);
        }
    }

    private void numbers() {
        for (int what = 0; what <= 15; what++) {
            int w = what;
            c.about("now");
            asked("now " + w, x -> x.now(w));
            c.about("hand");
            for (int n : new int[] {0, 1, 2, 5, 12}) {
                asked("hand " + n + " " + w, x -> x.hand(n, w));
            }
        }
        for (int what = 0; what <= 6; what++) {
            int w = what;
            c.about("told");
            asked("told " + w, x -> x.told(w));
            c.about("count");
            asked("count " + w, x -> x.count(w));
        }
        for (int act = 0; act <= 7; act++) {
            int a = act;
            c.about("drive");
            asked("drive " + a, x -> x.drive(a));
            c.about("would");
            asked("would " + a, x -> x.would(a));
        }
    }

    private void rows() {
        c.about("soonest");
        for (int k = 0; k <= 4; k++) {
            for (int what = -1; what <= 3; what++) {
                int many = k;
                int w = what;
                asked("soonest " + k + " " + what, x -> x.soonest(many, w));
            }
        }
        c.about("gentlest");
        for (int n = 1; n <= 4; n++) {
            for (int what = -1; what < n; what++) {
                int many = n;
                int w = what;
                asked("gentlest " + n + " " + what, x -> x.gentlest(many, w));
            }
        }
        c.about("why, waits, round, shiftLoad");
        asked("why", DonkeyBridge::why);
        asked("waits", DonkeyBridge::waits);
        asked("round", DonkeyBridge::round);
        asked("shiftLoad", DonkeyBridge::shiftLoad);
    }

    private void chances() {
        c.about("sure");
        for (int n = 1; n <= 6; n++) {
            int many = n;
            asked("sure " + n + " above", x -> x.sure(many, 0));
            asked("sure " + n + " below", x -> x.sure(many, 1));
        }
        c.about("days");
        for (int n : new int[] {0, 1, 2, 99}) {
            for (int what = 0; what <= 2; what++) {
                int w = what;
                asked("days " + n + " " + what, x -> x.days(n, w));
            }
        }
        c.about("string");
        for (int what = 0; what <= 2; what++) {
            int w = what;
            asked("string " + w, x -> x.string(w));
        }
        c.about("off");
        asked("off", DonkeyBridge::off);
        c.about("judge");
        for (int tape = 0; tape <= 5; tape++) {
            for (int i = -1; i <= 5; i++) {
                int t = tape;
                int from = i;
                asked("judge " + t + " " + from, x -> x.judge(t, from));
            }
        }
    }

    private void places() {
        for (int place = 0; place <= 9; place++) {
            int p = place;
            c.about("of");
            for (int what = 0; what <= 2; what++) {
                int w = what;
                asked("of " + p + " " + w, x -> x.of(p, w));
            }
            c.about("taken");
            for (int k = 0; k <= 6; k++) {
                int kind = k;
                asked("taken " + p + " " + kind, x -> x.taken(p, kind));
            }
        }
        c.about("trace");
        for (int i = 0; i <= 19; i++) {
            int at = i;
            asked("trace " + at, x -> x.trace(at));
        }
        c.about("read");
        for (int tape = 0; tape <= 5; tape++) {
            int t = tape;
            asked("read " + t, x -> x.read(t, 1));
        }
    }

    public static void main(String[] args) {
        AskingTest t = new AskingTest();
        t.numbers();
        t.rows();
        t.chances();
        t.places();
        t.c.end();
    }
}
