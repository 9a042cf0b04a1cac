import java.math.BigInteger;
import java.util.ArrayList;
import java.util.Arrays;
import java.util.HashSet;
import java.util.List;
import java.util.Set;

/**
 * The promises of DonkeyBridge written once more, in other ways than the class has them: rows are counted through
 * whole, laws are read at every look, faults are found by all the ways a text may go on, bodies are methods of
 * classes that extend one another.
 */
final class Model {
    private static final int OVER = -5;

    // ---- the donkey

    private static final class Beast implements Cloneable {
        int[] fear = {10, 10, 10, 10, 10, 10};
        int paid, hunger = 20, wear, looks, left, right, at, halfMinutes;
        boolean sits;

        Beast copy() {
            try {
                Beast b = (Beast) super.clone();
                b.fear = fear.clone();
                return b;
            } catch (CloneNotSupportedException e) {
                throw new IllegalStateException(e);
            }
        }

        int learnt() {
            return Arrays.stream(fear).sum() + paid;
        }

        int[] all() {
            return new int[] {fear[0], fear[1], fear[2], fear[3], fear[4], fear[5], paid, hunger, wear, looks,
                left, right, at, sits ? 1 : 0, halfMinutes, learnt()};
        }
    }

    private static int within(int n, int most) {
        return n < 0 ? 0 : n > most ? most : n;
    }

    // ---- kinds and their bodies

    private abstract static class Kind {
        final List<Integer> trace;
        final int i;
        final int v;

        Kind(List<Integer> trace, int i, int v) {
            this.trace = trace;
            this.i = i;
            this.v = v;
        }
    }

    private static class Stand extends Kind {
        Stand(List<Integer> trace, int i, int v) {
            super(trace, i, v);
        }

        int holds(int x) {
            trace.add(10);
            return x + i;
        }

        int chooses(int x) {
            trace.add(11);
            return holds(x) - v;
        }

        int tells(int x) {
            trace.add(12);
            return chooses(x) * 2;
        }
    }

    private static class Feared extends Stand {
        Feared(List<Integer> trace, int i, int v) {
            super(trace, i, v);
        }

        @Override
        int chooses(int x) {
            trace.add(20);
            return super.chooses(x) ^ 6;
        }
    }

    private static class Sore extends Stand {
        Sore(List<Integer> trace, int i, int v) {
            super(trace, i, v);
        }

        @Override
        int holds(int x) {
            trace.add(30);
            return super.holds(x * 3);
        }
    }

    private static class Spoilt extends Stand {
        Spoilt(List<Integer> trace, int i, int v) {
            super(trace, i, v);
        }

        @Override
        int tells(int x) {
            trace.add(40);
            return super.tells(x) + chooses(1);
        }
    }

    private static class Looking extends Feared {
        Looking(List<Integer> trace, int i, int v) {
            super(trace, i, v);
        }

        @Override
        int holds(int x) {
            trace.add(50);
            return -super.holds(x);
        }

        @Override
        int chooses(int x) {
            trace.add(51);
            return super.chooses(x + 1);
        }
    }

    private static class Tired extends Sore {
        Tired(List<Integer> trace, int i, int v) {
            super(trace, i, v);
        }

        @Override
        int tells(int x) {
            trace.add(60);
            return super.tells(x - i);
        }
    }

    private static class Called extends Spoilt {
        Called(List<Integer> trace, int i, int v) {
            super(trace, i, v);
        }

        @Override
        int chooses(int x) {
            trace.add(70);
            return super.chooses(x) + super.holds(2);
        }

        @Override
        int holds(int x) {
            trace.add(71);
            return super.holds(x) ^ v;
        }
    }

    private Stand placeAs(int place) {
        int[] p = places.get(place);
        switch (p[0]) {
            case 0: return new Stand(trace, place, p[1]);
            case 1: return new Feared(trace, place, p[1]);
            case 2: return new Sore(trace, place, p[1]);
            case 3: return new Spoilt(trace, place, p[1]);
            case 4: return new Looking(trace, place, p[1]);
            case 5: return new Tired(trace, place, p[1]);
            default: return new Called(trace, place, p[1]);
        }
    }

    // ---- what is held

    private final List<int[]> places = new ArrayList<>();
    private StringBuilder text = new StringBuilder();
    private final List<String> laws = new ArrayList<>();
    private int held = -1;
    private Beast d = new Beast();
    private List<Integer> row = new ArrayList<>();
    private List<Integer> film = new ArrayList<>();
    private List<Integer> beasts = new ArrayList<>();
    private int odds;
    private Object[] image;
    private final List<Integer> trace = new ArrayList<>();
    private final long[][] tapes = new long[6][];
    private final int[] sorts = {-1, -1, -1, -1, -1, -1};

    // ---- laws

    /**
     * What may still come, as a text of symbols: a small sign stands for itself, C for a clause, N for a number,
     * W.. for the rest of a word, E, T, F (with how deep: 0 to 4) and X for a test. The set holds all ways to go on.
     */
    private static Set<String> ways(String start) {
        Set<String> out = new HashSet<>();
        spread(start, out);
        return out;
    }

    private static void spread(String way, Set<String> out) {
        if (way.isEmpty()) {
            out.add(way);
            return;
        }
        char c = way.charAt(0);
        String rest = way.substring(1);
        switch (c) {
            case 'L': // a law of so many clauses at most
                char many = rest.charAt(0);
                spread("C" + rest.substring(1), out);
                if (many > 'a') {
                    spread("C;L" + (char) (many - 1) + rest.substring(1), out);
                }
                break;
            case 'C':
                for (String w : new String[] {"go", "not", "hurt"}) {
                    out.add(w + " N E0" + rest);
                }
                for (String w : new String[] {"lead", "hit", "look", "ford"}) {
                    out.add(w + " N" + rest);
                }
                break;
            case 'N':
                out.add("#" + rest);
                out.add("##" + rest);
                break;
            case 'E':
                spread("T" + rest, out);
                spread("T" + rest.charAt(0) + "|E" + rest, out);
                break;
            case 'T':
                spread("F" + rest, out);
                spread("F" + rest.charAt(0) + "&T" + rest, out);
                break;
            case 'F':
                char deep = rest.charAt(0);
                String behind = rest.substring(1);
                if (deep < '4') {
                    out.add("!F" + (char) (deep + 1) + behind);
                    out.add("(E" + (char) (deep + 1) + ")" + behind);
                }
                out.add("@?N" + behind);
                break;
            default:
                out.add(way);
                break;
        }
    }

    private static boolean fits(char symbol, char sign) {
        switch (symbol) {
            case '#': return sign >= '0' && sign <= '9';
            case '@': return "fhpwlsakt".indexOf(sign) >= 0;
            case '?': return "<=>".indexOf(sign) >= 0;
            default: return symbol == sign;
        }
    }

    /** The FAULT of a text, or -1. */
    static int fault(String text) {
        Set<String> ways = ways("Lj");
        for (int i = 0; i < text.length(); i++) {
            Set<String> next = new HashSet<>();
            for (String way : ways) {
                if (!way.isEmpty() && fits(way.charAt(0), text.charAt(i))) {
                    next.addAll(ways(way.substring(1)));
                }
            }
            if (next.isEmpty()) {
                return i;
            }
            ways = next;
        }
        return ways.contains("") ? -1 : text.length();
    }

    private int fact(char letter, Beast b) {
        int[] p = places.get(b.at);
        switch (letter) {
            case 'f': return b.fear[p[2]];
            case 'h': return b.hunger;
            case 'p': return b.paid;
            case 'w': return b.wear;
            case 'l': return Math.abs(b.left - b.right);
            case 's': return Math.min(99, b.left + b.right);
            case 'a': return b.at;
            case 'k': return p[0];
            case 't': return b.halfMinutes % 60;
            default: throw new IllegalStateException();
        }
    }

    /** Where in e a sign stands outside all brackets; -1. */
    private static int bare(String e, char sign) {
        int deep = 0;
        for (int i = 0; i < e.length(); i++) {
            char c = e.charAt(i);
            deep += c == '(' ? 1 : c == ')' ? -1 : 0;
            if (deep == 0 && c == sign) {
                return i;
            }
        }
        return -1;
    }

    private boolean holdsFor(String e, Beast b) {
        int at = bare(e, '|');
        if (at >= 0) {
            return holdsFor(e.substring(0, at), b) || holdsFor(e.substring(at + 1), b);
        }
        at = bare(e, '&');
        if (at >= 0) {
            return holdsFor(e.substring(0, at), b) && holdsFor(e.substring(at + 1), b);
        }
        if (e.charAt(0) == '!') {
            return !holdsFor(e.substring(1), b);
        }
        if (e.charAt(0) == '(') {
            return holdsFor(e.substring(1, e.length() - 1), b);
        }
        int have = fact(e.charAt(0), b);
        int n = Integer.parseInt(e.substring(2));
        return e.charAt(1) == '<' ? have < n : e.charAt(1) == '=' ? have == n : have > n;
    }

    private String[] clauses() {
        return held < 0 ? new String[0] : laws.get(held).split(";");
    }

    private int sum(String word, Beast b) {
        int sum = 0;
        for (String clause : clauses()) {
            String[] parts = clause.split(" ");
            if (parts[0].equals(word) && holdsFor(parts[2], b)) {
                sum += Integer.parseInt(parts[1]);
            }
        }
        return sum;
    }

    private int last(String word, int without) {
        int n = without;
        for (String clause : clauses()) {
            String[] parts = clause.split(" ");
            n = parts[0].equals(word) ? Integer.parseInt(parts[1]) : n;
        }
        return n;
    }

    private int ford() {
        return Math.max(1, last("ford", 9));
    }

    // ---- half minutes

    private boolean over(Beast b) {
        return b.at == places.size();
    }

    private int[] reasons(Beast b, int act) {
        int[] p = places.get(b.at);
        int kind = p[0];
        int fear = b.fear[p[2]];
        int counts = act == 3 ? 0 : act == 2 ? fear / 2 : fear;
        if (kind == 1 || kind == 4) {
            counts *= 2;
        }
        if (kind == 4) {
            counts = Math.max(0, counts - p[1] * b.looks);
        }
        return new int[] {
            sum("not", b),
            counts,
            kind == 2 || kind == 5 ? sum("hurt", b) : 0,
            kind == 3 || kind == 6 ? b.paid : 0,
            kind == 5 ? b.wear / 2 : 0,
            kind == 6 ? p[1] * b.at : 0,
            b.sits ? 15 : 0
        };
    }

    private int driveOf(Beast b, int act, int leadMore) {
        int drive = sum("go", b) - Arrays.stream(reasons(b, act)).sum();
        if (act == 1) {
            drive += last("lead", 3) + leadMore;
        } else if (act == 3) {
            drive -= 20;
        } else if (act == 4) {
            drive += b.hunger / 2;
        } else if (act == 7) {
            drive += last("hit", 5);
        }
        return drive;
    }

    private static int doing(int drive) {
        return drive > 0 ? 1 : drive > -15 ? 0 : drive > -40 ? 2 : 3;
    }

    private int wouldDo(Beast b, int act) {
        return over(b) ? OVER : act == 6 ? 1 : doing(driveOf(b, act, 0));
    }

    private int act(Beast b, int act, int wandering) {
        if (over(b)) {
            return OVER;
        }
        if (act == 6) {
            b.at++;
            b.looks = 0;
            b.sits = false;
            b.paid = within(b.paid + 10, 99);
            b.halfMinutes += ford();
            return 1;
        }
        int thing = places.get(b.at)[2];
        int does = doing(driveOf(b, act, 0) - wandering);
        int look = last("look", 2);
        b.sits = does == 3;
        if (does == 1) {
            b.fear[thing] = within(b.fear[thing] - 5, 99);
            b.wear = within(b.wear + 1, 99);
            b.looks = 0;
            b.at++;
        } else if (does == 0 && act != 7) {
            b.fear[thing] = within(b.fear[thing] - look, 99);
            b.looks = within(b.looks + 1, 9);
        } else if (does == 2) {
            b.at = Math.max(0, b.at - 1);
            b.looks = 0;
        } else if (does == 3) {
            b.wear = within(b.wear - 1, 99);
        }
        if (act == 4) {
            b.paid = within(b.paid + (does == 1 ? -1 : 5), 99);
            b.hunger = within(b.hunger - 3, 99);
        }
        if (act == 5) {
            b.left = within(b.left - 5, 99);
            b.right = within(b.right - 5, 99);
        }
        if (act == 7 && does != 1) {
            b.fear[thing] = within(b.fear[thing] + 3, 99);
            b.paid = within(b.paid - 2, 99);
        }
        if (act == 1 && does != 1) {
            b.paid = within(b.paid - 1, 99);
        }
        b.halfMinutes++;
        return does;
    }

    private Beast behind(Beast from, List<Integer> acts) {
        Beast b = from.copy();
        for (int act : acts) {
            act(b, act, 0);
        }
        return b;
    }

    /** All rows of n acts but 6, the first as a row first. */
    private static List<List<Integer>> rows(int n) {
        List<List<Integer>> rows = new ArrayList<>();
        rows.add(new ArrayList<>());
        for (int i = 0; i < n; i++) {
            List<List<Integer>> longer = new ArrayList<>();
            for (List<Integer> r : rows) {
                for (int act : new int[] {0, 1, 2, 3, 4, 5, 7}) {
                    List<Integer> more = new ArrayList<>(r);
                    more.add(act);
                    longer.add(more);
                }
            }
            rows = longer;
        }
        return rows;
    }

    // ---- the face

    int place(int kind, int v, int thing) {
        if (kind < 0 || kind > 6 || thing < 0 || thing > 5) {
            return -1;
        }
        if (v < 0 || v > 9) {
            return -2;
        }
        if (places.size() == 10) {
            return -4;
        }
        places.add(new int[] {kind, v, thing});
        return places.size() - 1;
    }

    int of(int place, int what) {
        return place < 0 || place >= places.size() || what < 0 || what > 2 ? -1 : places.get(place)[what];
    }

    int set(int what, int n) {
        if (what < 0 || what > 13) {
            return -1;
        }
        int most = what == 9 ? 9 : what == 12 ? places.size() : what == 13 ? 1 : 99;
        if (n < 0 || n > most) {
            return -2;
        }
        int was = d.all()[what];
        switch (what) {
            case 6: d.paid = n; break;
            case 7: d.hunger = n; break;
            case 8: d.wear = n; break;
            case 9: d.looks = n; break;
            case 10: d.left = n; break;
            case 11: d.right = n; break;
            case 12: d.at = n; break;
            case 13: d.sits = n == 1; break;
            default: d.fear[what] = n; break;
        }
        return was;
    }

    int now(int what) {
        return what < 0 || what > 15 ? -1 : d.all()[what];
    }

    int feed(int sign) {
        if (sign < 0 || sign > 127) {
            return -2;
        }
        if (text.length() == 100) {
            return -4;
        }
        text.append((char) sign);
        return text.length();
    }

    int law() {
        if (laws.size() == 6) {
            return -4;
        }
        String t = text.toString();
        text = new StringBuilder();
        int fault = fault(t);
        if (fault >= 0) {
            return -10 - fault;
        }
        laws.add(t);
        held = laws.size() - 1;
        return held;
    }

    int told(int what) {
        if (what < 0 || what > 6) {
            return -1;
        }
        if (what < 3) {
            return over(d) ? -3 : sum(new String[] {"go", "not", "hurt"}[what], d);
        }
        return what == 3 ? last("lead", 3) : what == 4 ? last("hit", 5) : what == 5 ? last("look", 2) : last("ford", 9);
    }

    int drive(int act) {
        return act < 0 || act > 7 ? -100001 : over(d) ? -100003 : driveOf(d, act == 6 ? 0 : act, 0);
    }

    int would(int act) {
        return act < 0 || act > 7 ? -1 : wouldDo(d, act);
    }

    int go(int act) {
        if (act < 0 || act > 7) {
            return -1;
        }
        if (d.halfMinutes + (act == 6 ? ford() : 1) > 9999) {
            return -3;
        }
        return act(d, act, 0);
    }

    private static int more(List<Integer> list, int n, int most, int outside, int full) {
        if (n < -1 || n > most) {
            return outside;
        }
        if (n == -1) {
            list.clear();
            return 0;
        }
        if (list.size() == full) {
            return -4;
        }
        list.add(n);
        return list.size();
    }

    int row(int act) {
        return more(row, act, 7, -1, 12);
    }

    int hand(int n, int what) {
        if (what < 0 || what > 15) {
            return -1;
        }
        return n < 0 || n > row.size() ? -2 : behind(d, row.subList(0, n)).all()[what];
    }

    int soonest(int k, int what) {
        if (what < -1 || what > 3) {
            return -1;
        }
        if (k < 0 || k > 4) {
            return -2;
        }
        if (over(d)) {
            return -3;
        }
        for (int n = 1; n <= k; n++) {
            for (List<Integer> r : rows(n)) {
                if (behind(d, r).at == d.at + 1) {
                    return what == -1 ? n : what < n ? r.get(what) : -5;
                }
            }
        }
        return -5;
    }

    int gentlest(int n, int what) {
        if (n < 1 || n > 4) {
            return -2;
        }
        if (what < -1 || what >= n) {
            return -1;
        }
        if (over(d)) {
            return -3;
        }
        List<Integer> best = null;
        int least = 0;
        for (List<Integer> r : rows(n)) {
            Beast b = behind(d, r);
            if (b.at > d.at && (best == null || b.learnt() < least)) {
                best = r;
                least = b.learnt();
            }
        }
        return best == null ? -5 : what == -1 ? least : best.get(what);
    }

    int why() {
        if (over(d) || driveOf(d, 0, 0) > 0) {
            return -5;
        }
        int[] r = reasons(d, 0);
        int most = Arrays.stream(r).max().getAsInt();
        for (int i = 0; i < r.length; i++) {
            if (r[i] == most) {
                return i;
            }
        }
        throw new IllegalStateException();
    }

    int waits() {
        if (over(d)) {
            return -3;
        }
        Beast b = d.copy();
        for (int i = 1; i < 61; i++) {
            act(b, 0, 0);
            if (b.at == d.at + 1) {
                return i;
            }
        }
        return -5;
    }

    int round() {
        int w = waits();
        return w == -3 ? -3 : w == -5 || ford() < w ? 1 : 0;
    }

    int shiftLoad() {
        if (over(d)) {
            return -100003;
        }
        int best = 0;
        int least = Integer.MAX_VALUE;
        for (int s = -99; s <= 99; s++) {
            Beast b = d.copy();
            b.left -= s;
            b.right += s;
            if (b.left < 0 || b.left > 99 || b.right < 0 || b.right > 99) {
                continue;
            }
            int hurt = sum("hurt", b);
            boolean nearer = Math.abs(s) < Math.abs(best) || Math.abs(s) == Math.abs(best) && s > best;
            if (hurt < least || hurt == least && nearer) {
                least = hurt;
                best = s;
            }
        }
        return best;
    }

    int wander(int n) {
        if (n < 0 || n > 10) {
            return -2;
        }
        int was = odds;
        odds = n;
        return was;
    }

    long sure(int n, int part) {
        if (n < 1 || n > 6 || n > row.size() || part < 0 || part > 1) {
            return Long.MIN_VALUE;
        }
        long above = 0;
        for (int mask = 0; mask < 1 << n; mask++) {
            Beast b = d.copy();
            long weight = 1;
            for (int i = 0; i < n; i++) {
                boolean wanders = (mask >> i & 1) == 1;
                weight *= wanders ? odds : 10 - odds;
                act(b, row.get(i), wanders ? 10 : 0);
            }
            above += b.at > d.at ? weight : 0;
        }
        BigInteger a = BigInteger.valueOf(above);
        BigInteger all = BigInteger.TEN.pow(n);
        return (part == 0 ? a : all).divide(a.gcd(all)).longValue();
    }

    int days(int n, int what) {
        if (what < 0 || what > 2) {
            return -1;
        }
        if (n < 0 || n > 99) {
            return -2;
        }
        Beast b = d.copy();
        for (int i = 0; i < n; i++) {
            b.at = 0;
            b.looks = 0;
            b.sits = false;
            b = behind(b, row);
        }
        return what == 0 ? b.learnt() : what == 1 ? b.paid : b.at;
    }

    int beast(int fear) {
        return more(beasts, fear, 99, -2, 4);
    }

    int string(int what) {
        if (what < 0 || what > 2) {
            return -1;
        }
        if (over(d)) {
            return -3;
        }
        if (beasts.isEmpty()) {
            return -5;
        }
        int least = beasts.stream().min(Integer::compare).get();
        int more = Math.max(d.fear[places.get(d.at)[2]] - least, 0) / 10;
        return what == 0 ? beasts.indexOf(least) : what == 1 ? more : driveOf(d, 1, more) > 0 ? 1 : 0;
    }

    int film(int what) {
        return more(film, what, 3, -1, 12);
    }

    int off() {
        Beast b = d.copy();
        for (int i = 0; i < Math.min(row.size(), film.size()); i++) {
            int does = act(b, row.get(i), 0);
            if (does == OVER || does != film.get(i)) {
                return i;
            }
        }
        return -5;
    }

    int judge(int tape, int i) {
        if (tape < 0 || tape > 5) {
            return -1;
        }
        if (sorts[tape] > 0) {
            return -12;
        }
        if (row.isEmpty()) {
            return -5;
        }
        if (i < 0 || tapes[tape] == null) {
            return 100;
        }
        Beast b = d.copy();
        for (int k = 0; k < row.size(); k++) {
            if ((long) i + k >= tapes[tape].length) {
                return 100 + k;
            }
            act(b, row.get(k), 0);
            if (tapes[tape][i + k] != b.at) {
                return k;
            }
        }
        return -5;
    }

    int image() {
        image = new Object[] {d.copy(), odds, new ArrayList<>(row), new ArrayList<>(film), new ArrayList<>(beasts), held};
        return d.at;
    }

    @SuppressWarnings("unchecked")
    int undo() {
        if (image == null) {
            return -3;
        }
        d = ((Beast) image[0]).copy();
        odds = (Integer) image[1];
        row = new ArrayList<>((List<Integer>) image[2]);
        film = new ArrayList<>((List<Integer>) image[3]);
        beasts = new ArrayList<>((List<Integer>) image[4]);
        held = (Integer) image[5];
        return d.at;
    }

    int part(int place, int part, int x) {
        trace.clear();
        if (place < 0 || place >= places.size() || part < 0 || part > 2) {
            return 0;
        }
        Stand s = placeAs(place);
        return part == 0 ? s.holds(x) : part == 1 ? s.chooses(x) : s.tells(x);
    }

    int trace(int i) {
        return i < 0 || i >= trace.size() || i >= 20 ? -1 : trace.get(i);
    }

    int taken(int place, int k) {
        if (k < 0 || k > 6) {
            return -2;
        }
        if (place < 0 || place >= places.size()) {
            return -11;
        }
        Class<?>[] kinds =
            {Stand.class, Feared.class, Sore.class, Spoilt.class, Looking.class, Tired.class, Called.class};
        return kinds[k].isInstance(placeAs(place)) ? places.get(place)[0] : -12;
    }

    int count(int what) {
        int[] all = {places.size(), laws.size(), row.size(), film.size(), beasts.size(), text.length(), trace.size()};
        return what < 0 || what > 6 ? -2 : all[what];
    }

    int tape(int tape, int sort, int n) {
        if (tape < 0 || tape > 5) {
            return -1;
        }
        if (sort < -1 || sort > 4 || sort != -1 && n > 60) {
            return -2;
        }
        if (sort != -1 && n < 0) {
            return -14;
        }
        sorts[tape] = sort;
        tapes[tape] = sort == -1 ? null : new long[n];
        return 1;
    }

    int item(int tape, int i, long v) {
        if (tape < 0 || tape > 5) {
            return -1;
        }
        if (tapes[tape] == null) {
            return -11;
        }
        if (i < 0 || i >= tapes[tape].length) {
            return -13;
        }
        int spare = new int[] {56, 48, 32, 0, 0}[sorts[tape]];
        tapes[tape][i] = sorts[tape] == 4 ? (v != 0 ? 1 : 0) : v << spare >> spare;
        return 1;
    }

    long read(int tape, int i) {
        boolean there = tape >= 0 && tape <= 5 && tapes[tape] != null && i >= 0 && i < tapes[tape].length;
        return there ? tapes[tape][i] : Long.MIN_VALUE;
    }

    int shift(int tape, int i, int other, int j, int n) {
        if (tape < 0 || tape > 5 || other < 0 || other > 5) {
            return -1;
        }
        if (tapes[tape] == null || tapes[other] == null) {
            return -11;
        }
        if (sorts[tape] != sorts[other]) {
            return -12;
        }
        if (n < 0 || i < 0 || j < 0 || (long) i + n > tapes[tape].length || (long) j + n > tapes[other].length) {
            return -13;
        }
        long[] before = tapes[tape].clone();
        for (int k = 0; k < n; k++) {
            tapes[other][j + k] = before[i + k];
        }
        return n;
    }
}
