import java.util.Random;

/** Runs of calls by chance (the same each time), on the class and on the model: all answers are alike. */
public final class ModelTest {
    private static final int RUNS = 260, CALLS = 500;

    private final Random chance;
    private final Check check;
    private final int run;
    private final DonkeyBridge x = new DonkeyBridge();
    private final Model m = new Model();
    private int calls;

    private ModelTest(Check check, int run) {
        this.check = check;
        this.run = run;
        chance = new Random(run * 7919L + 5);
    }

    private void same(String call, long got, long want) {
        calls++;
        check.due("run " + run + ", call " + calls + ", " + call, got, want);
    }

    /** Mostly a number from low to high, now and then one beside them. */
    private int near(int low, int high) {
        int way = chance.nextInt(40);
        if (way == 0) {
            return low - 1;
        }
        if (way == 1) {
            return high + 1;
        }
        if (way == 2 && chance.nextInt(10) == 0) {
            return new int[] {Integer.MIN_VALUE, Integer.MAX_VALUE, -7, 1000}[chance.nextInt(4)];
        }
        return low + chance.nextInt(high - low + 1);
    }

    private String single(int depth) {
        int way = chance.nextInt(10);
        if (way == 0 && depth < 5) {
            return "!" + single(depth + 1);
        }
        if (way <= 2 && depth < 5) {
            return "(" + either(depth + 1) + ")";
        }
        return "" + "fhpwlsakt".charAt(chance.nextInt(9)) + "<=>".charAt(chance.nextInt(3))
            + chance.nextInt(chance.nextBoolean() ? 100 : 12);
    }

    private String both(int depth) {
        return single(depth) + (chance.nextInt(4) == 0 ? "&" + both(depth) : "");
    }

    private String either(int depth) {
        return both(depth) + (chance.nextInt(4) == 0 ? "|" + either(depth) : "");
    }

    private String clause() {
        int n = chance.nextInt(chance.nextInt(3) == 0 ? 100 : 30);
        String two = (n < 10 && chance.nextInt(4) == 0 ? "0" : "") + n;
        switch (chance.nextInt(8)) {
            case 0: return "lead " + two;
            case 1: return "hit " + two;
            case 2: return "look " + two;
            case 3: return "ford " + (chance.nextInt(5) == 0 ? 0 : chance.nextInt(20));
            case 4: return "hurt " + two + " " + either(0);
            case 5: return "not " + two + " " + either(0);
            default: return "go " + two + " " + either(0);
        }
    }

    private String text() {
        StringBuilder t = new StringBuilder(clause());
        while (t.length() < 80 && chance.nextInt(6) != 0) {
            t.append(';').append(clause());
        }
        int way = chance.nextInt(5);
        if (way == 0) {
            String signs = "godrtnhulfkwspaie <=>&|!();0123456789xZ~";
            t.setCharAt(chance.nextInt(t.length()), signs.charAt(chance.nextInt(signs.length())));
        } else if (way == 1 && chance.nextBoolean()) {
            t.setLength(chance.nextInt(t.length()));
        }
        return t.toString();
    }

    private void feedLaw() {
        String t = text();
        for (int i = 0; i < t.length() && i < 110; i++) {
            same("feed", x.feed(t.charAt(i)), m.feed(t.charAt(i)));
        }
        same("law of " + t, x.law(), m.law());
    }

    private void setAll() {
        for (int what = 0; what <= 13; what++) {
            int n = what == 9 ? near(0, 9) : what == 12 ? near(0, 10) : what == 13 ? near(0, 1) : near(0, 99);
            if (chance.nextInt(3) == 0 && what < 9) {
                n = near(0, 25);
            }
            same("set " + what + " " + n, x.set(what, n), m.set(what, n));
        }
    }

    private void lookAtAll() {
        for (int what = 0; what <= 15; what++) {
            same("now " + what, x.now(what), m.now(what));
        }
        for (int what = 0; what <= 6; what++) {
            same("count " + what, x.count(what), m.count(what));
            same("told " + what, x.told(what), m.told(what));
        }
    }

    private void lookAtActs() {
        for (int act = 0; act <= 7; act++) {
            same("drive " + act, x.drive(act), m.drive(act));
            same("would " + act, x.would(act), m.would(act));
        }
    }

    private void lookAtSearch() {
        int k = near(0, chance.nextInt(5) == 0 ? 4 : 3);
        int n = near(1, chance.nextInt(5) == 0 ? 4 : 3);
        for (int what = -2; what <= 4; what++) {
            same("soonest " + k + " " + what, x.soonest(k, what), m.soonest(k, what));
            if (what <= 1 || what == n - 1) {
                same("gentlest " + n + " " + what, x.gentlest(n, what), m.gentlest(n, what));
            }
        }
    }

    private void lookAtReasons() {
        same("why", x.why(), m.why());
        same("waits", x.waits(), m.waits());
        same("round", x.round(), m.round());
        same("shiftLoad", x.shiftLoad(), m.shiftLoad());
    }

    private void lookAtRow() {
        int n = near(0, 12);
        int s = near(1, 6);
        for (int what = 0; what <= 15; what++) {
            same("hand " + n + " " + what, x.hand(n, what), m.hand(n, what));
        }
        same("sure " + s + " 0", x.sure(s, 0), m.sure(s, 0));
        same("sure " + s + " 1", x.sure(s, 1), m.sure(s, 1));
        int days = near(0, 99);
        for (int what = -1; what <= 3; what++) {
            same("days " + days + " " + what, x.days(days, what), m.days(days, what));
        }
        for (int what = -1; what <= 3; what++) {
            same("string " + what, x.string(what), m.string(what));
        }
        same("off", x.off(), m.off());
    }

    private void tellRow() {
        if (chance.nextInt(4) == 0) {
            same("row -1", x.row(-1), m.row(-1));
            same("film -1", x.film(-1), m.film(-1));
        }
        for (int i = chance.nextInt(7); i >= 0; i--) {
            int act = near(0, 7);
            same("row " + act, x.row(act), m.row(act));
            // what it does in fact, most times, so that the first otherwise stands far behind
            int does = chance.nextInt(6) == 0 ? near(0, 3) : Math.max(0, m.would(Math.max(0, Math.min(7, act))));
            same("film " + does, x.film(does), m.film(does));
        }
        int fear = near(-1, 99);
        same("beast " + fear, x.beast(fear), m.beast(fear));
    }

    private void judge() {
        int n = near(0, 14);
        same("tape", x.tape(2, 0, n), m.tape(2, 0, n));
        int from = chance.nextInt(3);
        for (int k = 0; k < Math.min(n, 12); k++) {
            int at = chance.nextInt(12) == 0 ? 3 : m.hand(Math.min(k + 1, m.count(2)), 12);
            same("item", x.item(2, from + k, at), m.item(2, from + k, at));
        }
        same("judge", x.judge(2, from), m.judge(2, from));
        int tape = near(0, 5);
        int i = near(0, 12);
        same("judge " + tape + " " + i, x.judge(tape, i), m.judge(tape, i));
    }

    private void useTapes() {
        int tape = near(0, 5);
        int other = chance.nextInt(3) == 0 ? tape : near(0, 5);
        int sort = chance.nextInt(3) == 0 ? 0 : near(-1, 4);
        int n = near(0, chance.nextBoolean() ? 60 : 6);
        if (chance.nextInt(3) == 0) {
            same("tape " + tape + " " + sort + " " + n, x.tape(tape, sort, n), m.tape(tape, sort, n));
        }
        for (int k = 0; k < 4; k++) {
            int i = near(0, 6);
            long v = chance.nextLong() >> chance.nextInt(64);
            same("item " + tape + " " + i + " " + v, x.item(tape, i, v), m.item(tape, i, v));
        }
        int i = near(0, 4);
        int j = near(0, 4);
        int many = near(0, 4);
        same("shift", x.shift(tape, i, other, j, many), m.shift(tape, i, other, j, many));
        for (int k = -1; k <= 8; k++) {
            same("read", x.read(other, k), m.read(other, k));
        }
    }

    private void useParts() {
        int place = near(0, 9);
        int part = near(0, 2);
        int in = chance.nextInt(3) == 0 ? chance.nextInt() : near(-20, 20);
        same("part " + place + " " + part + " " + in, x.part(place, part, in), m.part(place, part, in));
        for (int k = -1; k <= 13; k++) {
            same("trace " + k, x.trace(k), m.trace(k));
        }
        int kind = near(0, 6);
        same("taken " + place + " " + kind, x.taken(place, kind), m.taken(place, kind));
        for (int what = -1; what <= 3; what++) {
            same("of " + place + " " + what, x.of(place, what), m.of(place, what));
        }
    }

    private void doSomething() {
        switch (chance.nextInt(22)) {
            case 0:
                int kind = near(0, 6);
                int v = near(0, 9);
                int thing = near(0, 5);
                same("place", x.place(kind, v, thing), m.place(kind, v, thing));
                break;
            case 1: feedLaw(); break;
            case 2: setAll(); break;
            case 3: lookAtAll(); break;
            case 4: case 5: lookAtActs(); break;
            case 6: lookAtSearch(); break;
            case 7: lookAtReasons(); break;
            case 8: lookAtRow(); break;
            case 9: case 10: tellRow(); break;
            case 11: judge(); break;
            case 12: useTapes(); break;
            case 13: useParts(); break;
            case 14:
                same("image", x.image(), m.image());
                break;
            case 15:
                same("undo", x.undo(), m.undo());
                lookAtAll();
                break;
            case 16:
                int odds = near(0, 10);
                same("wander", x.wander(odds), m.wander(odds));
                break;
            case 17:
                int at = near(0, Math.max(0, m.count(0) - 1));
                same("set 12", x.set(12, at), m.set(12, at));
                break;
            default:
                int act = near(0, 7);
                same("go " + act, x.go(act), m.go(act));
                break;
        }
    }

    private void runAll() {
        for (int i = 0; i < 2 + chance.nextInt(8); i++) {
            int kind = chance.nextInt(7);
            int v = chance.nextInt(10);
            int thing = chance.nextInt(6);
            same("place", x.place(kind, v, thing), m.place(kind, v, thing));
        }
        while (calls < CALLS - 140) {
            doSomething();
        }
    }

    public static void main(String[] args) {
        Check check = new Check("ModelTest");
        for (int run = 0; run < RUNS; run++) {
            new ModelTest(check, run).runAll();
        }
        check.end();
    }
}
