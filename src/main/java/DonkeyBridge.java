import java.util.Arrays;

/** A donkey that will not: see README.md for how it is used, ../shared/DOC.md for what it promises. */
public final class DonkeyBridge {
    public static final int NONE = -1, BAD = -2, STATE = -3, FULL = -4;
    public static final long NO = Long.MIN_VALUE;

    /** What is answered where there is none, or where it is OVER. */
    private static final int NEVER = -5;
    /** A FAULT at place 0 of THE TEXT; those behind it lie below. */
    private static final int FIRST_FAULT = -10;
    private static final int NOTHING = -11, CAST = -12, NO_PLACE = -13, SIZE = -14;
    /** NONE and STATE of calls that may answer any small number. */
    private static final int FAR_NONE = -100001, FAR_STATE = -100003;

    // The numbers of THE DONKEY; 0 to 5 are its FEARS.
    private static final int PAID = 6, HUNGER = 7, WEAR = 8, LOOKS = 9, LEFT = 10, RIGHT = 11;
    private static final int AT = 12, SITS = 13, HALF_MINUTES = 14, LEARNT = 15;

    private static final int KIND_STAND = 0, KIND_FEARED = 1, KIND_SORE = 2, KIND_SPOILT = 3;
    private static final int KIND_LOOKING = 4, KIND_TIRED = 5, KIND_CALLED = 6;

    private static final int ACT_WAIT = 0, ACT_LEAD = 1, ACT_COVER = 2, ACT_BACK = 3;
    private static final int ACT_FEED = 4, ACT_UNLOAD = 5, ACT_FORD = 6, ACT_HIT = 7;

    private static final int STANDS = 0, GOES = 1, BACKS = 2, SITS_DOWN = 3;

    private static final int WORD_GO = 0, WORD_NOT = 1, WORD_HURT = 2;
    private static final int WORD_LEAD = 3, WORD_HIT = 4, WORD_LOOK = 5, WORD_FORD = 6;

    private static final int MOST_PLACES = 10, MOST_SIGNS = 100, MOST_LAWS = 6, MOST_CLAUSES = 10;
    private static final int MOST_ACTS = 12, MOST_BEASTS = 4, MOST_ITEMS = 60, MOST_TAPES = 6;
    private static final int MOST_HALF_MINUTES = 9999, LONGEST_WAIT = 60, LONGEST_SEARCH = 4;
    private static final int LONGEST_CHANCE = 6, MOST_DAYS = 99, WORST_ODDS = 10;

    private final Road road;
    private final Text text;
    private final Law[] laws;
    private final Law noLaw;
    private int lawCount;
    private final Walk walk;
    private final Trial trial;
    private final Bodies bodies;
    private final Tape[] tapes;
    private final Moment present;
    private final Moment kept;
    private boolean imageTaken;

    public DonkeyBridge() {
        road = new Road();
        text = new Text();
        laws = new Law[MOST_LAWS];
        for (int i = 0; i < laws.length; i++) {
            laws[i] = new Law();
        }
        noLaw = new Law();
        walk = new Walk(road, noLaw);
        present = new Moment();
        kept = new Moment();
        trial = new Trial(walk, present);
        bodies = new Bodies(road);
        tapes = new Tape[MOST_TAPES];
        for (int i = 0; i < tapes.length; i++) {
            tapes[i] = new Tape();
        }
    }

    // ---- the road, the donkey, laws

    public int place(int kind, int v, int thing) {
        if (kind < KIND_STAND || kind > KIND_CALLED || thing < 0 || thing > 5) {
            return NONE;
        }
        if (v < 0 || v > 9) {
            return BAD;
        }
        if (road.size() >= MOST_PLACES) {
            return FULL;
        }
        return road.add(kind, v, thing);
    }

    public int of(int place, int what) {
        if (!road.has(place)) {
            return NONE;
        }
        switch (what) {
            case 0: return road.kindOf(place);
            case 1: return road.numberOf(place);
            case 2: return road.thingOf(place);
            default: return NONE;
        }
    }

    public int set(int what, int n) {
        if (what < 0 || what > SITS) {
            return NONE;
        }
        int most = what == AT ? road.size() : Donkey.mostOf(what);
        if (n < 0 || n > most) {
            return BAD;
        }
        int before = present.donkey.get(what);
        present.donkey.put(what, n);
        return before;
    }

    public int now(int what) {
        return what < 0 || what > LEARNT ? NONE : present.donkey.tell(what);
    }

    public int feed(int sign) {
        if (sign < 0 || sign > 127) {
            return BAD;
        }
        return text.add(sign) ? text.size() : FULL;
    }

    public int law() {
        Law next = lawCount >= 0 && lawCount < laws.length ? laws[lawCount] : null;
        if (next == null) {
            return FULL;
        }
        int fault = text.readLaw(next);
        text.clear();
        if (fault >= 0) {
            return FIRST_FAULT - fault;
        }
        present.held = lawCount;
        lawCount++;
        walk.obey(next);
        return present.held;
    }

    public int told(int what) {
        if (what < WORD_GO || what > WORD_FORD) {
            return NONE;
        }
        if (what > WORD_HURT) {
            return walk.lastOf(what);
        }
        return isOver() ? STATE : walk.togetherOf(present.donkey, what);
    }

    // ---- half minutes

    public int drive(int act) {
        if (!isAct(act)) {
            return FAR_NONE;
        }
        return isOver() ? FAR_STATE : walk.weigh(present.donkey, act);
    }

    public int would(int act) {
        return isAct(act) ? walk.doing(present.donkey, act) : NONE;
    }

    public int go(int act) {
        if (!isAct(act)) {
            return NONE;
        }
        if (present.donkey.get(HALF_MINUTES) + walk.halfMinutesOf(act) > MOST_HALF_MINUTES) {
            return STATE;
        }
        return walk.step(present.donkey, act, 0);
    }

    public int row(int act) {
        if (act != -1 && !isAct(act)) {
            return NONE;
        }
        return addOrClear(present.acts, act);
    }

    public int hand(int n, int what) {
        if (what < 0 || what > LEARNT) {
            return NONE;
        }
        if (n < 0 || n > present.acts.size()) {
            return BAD;
        }
        return trial.byHand(n).tell(what);
    }

    // ---- what to do

    public int soonest(int k, int what) {
        if (what < -1 || what >= LONGEST_SEARCH) {
            return NONE;
        }
        if (k < 0 || k > LONGEST_SEARCH) {
            return BAD;
        }
        if (isOver()) {
            return STATE;
        }
        int acts = trial.findSoonest(k);
        return what == -1 ? acts : trial.found(what);
    }

    public int gentlest(int n, int what) {
        if (n < 1 || n > LONGEST_SEARCH) {
            return BAD;
        }
        if (what < -1 || what >= n) {
            return NONE;
        }
        if (isOver()) {
            return STATE;
        }
        int learnt = trial.findGentlest(n);
        return what == -1 ? learnt : trial.found(what);
    }

    public int why() {
        return isOver() ? NEVER : walk.mostAgainst(present.donkey);
    }

    public int waits() {
        return isOver() ? STATE : trial.waiting();
    }

    public int round() {
        if (isOver()) {
            return STATE;
        }
        int waiting = trial.waiting();
        return waiting == NEVER || walk.halfMinutesOf(ACT_FORD) < waiting ? 1 : 0;
    }

    public int shiftLoad() {
        return isOver() ? FAR_STATE : trial.bestShift();
    }

    // ---- wandering, days, strings, films

    public int wander(int n) {
        if (n < 0 || n > WORST_ODDS) {
            return BAD;
        }
        int before = present.odds;
        present.odds = n;
        return before;
    }

    public long sure(int n, int part) {
        if (n < 1 || n > LONGEST_CHANCE || n > present.acts.size() || part < 0 || part > 1) {
            return NO;
        }
        return trial.chanceOf(n, part);
    }

    public int days(int n, int what) {
        if (what < 0 || what > 2) {
            return NONE;
        }
        if (n < 0 || n > MOST_DAYS) {
            return BAD;
        }
        Donkey then = trial.afterDays(n);
        switch (what) {
            case 0: return then.learnt();
            case 1: return then.get(PAID);
            default: return then.get(AT);
        }
    }

    public int beast(int fear) {
        return fear < -1 || fear > 99 ? BAD : addOrClear(present.beasts, fear);
    }

    public int string(int what) {
        if (what < 0 || what > 2) {
            return NONE;
        }
        if (isOver()) {
            return STATE;
        }
        int which = present.beasts.placeOfLeast();
        if (which < 0) {
            return NEVER;
        }
        if (what == 0) {
            return which;
        }
        int above = walk.fearThere(present.donkey) - present.beasts.get(which);
        int more = Math.max(0, above) / 10;
        if (what == 1) {
            return more;
        }
        return walk.weigh(present.donkey, ACT_LEAD) + more > 0 ? 1 : 0;
    }

    public int film(int what) {
        if (what < -1 || what > SITS_DOWN) {
            return NONE;
        }
        return addOrClear(present.seen, what);
    }

    public int off() {
        return trial.firstOtherwise();
    }

    // ---- judging, the image, parts, tapes

    public int judge(int tape, int i) {
        Tape told = tapeOf(tape);
        if (told == null) {
            return NONE;
        }
        if (told.holdsSomething() && told.sort() != Tape.BYTES) {
            return CAST;
        }
        return trial.firstMistold(told, i);
    }

    public int image() {
        kept.become(present);
        imageTaken = true;
        return present.donkey.get(AT);
    }

    public int undo() {
        if (!imageTaken) {
            return STATE;
        }
        present.become(kept);
        walk.obey(heldLaw());
        return present.donkey.get(AT);
    }

    public int part(int place, int part, int x) {
        return bodies.ask(place, part, x);
    }

    public int trace(int i) {
        return bodies.kept(i);
    }

    public int taken(int place, int k) {
        if (k < KIND_STAND || k > KIND_CALLED) {
            return BAD;
        }
        if (!road.has(place)) {
            return NOTHING;
        }
        int kind = road.kindOf(place);
        return Road.isUnder(kind, k) ? kind : CAST;
    }

    public int count(int what) {
        switch (what) {
            case 0: return road.size();
            case 1: return lawCount;
            case 2: return present.acts.size();
            case 3: return present.seen.size();
            case 4: return present.beasts.size();
            case 5: return text.size();
            case 6: return bodies.ran();
            default: return BAD;
        }
    }

    public int tape(int tape, int sort, int n) {
        Tape blank = tapeOf(tape);
        if (blank == null) {
            return NONE;
        }
        if (sort == Tape.EMPTY) {
            blank.renew(Tape.EMPTY, 0);
            return 1;
        }
        if (sort < Tape.BYTES || sort > Tape.BOOLEANS || n > MOST_ITEMS) {
            return BAD;
        }
        if (n < 0) {
            return SIZE;
        }
        blank.renew(sort, n);
        return 1;
    }

    public int item(int tape, int i, long v) {
        Tape told = tapeOf(tape);
        if (told == null) {
            return NONE;
        }
        if (!told.holdsSomething()) {
            return NOTHING;
        }
        if (!told.has(i)) {
            return NO_PLACE;
        }
        told.put(i, v);
        return 1;
    }

    public long read(int tape, int i) {
        Tape told = tapeOf(tape);
        return told != null && told.has(i) ? told.get(i) : NO;
    }

    public int shift(int tape, int i, int other, int j, int n) {
        Tape from = tapeOf(tape);
        Tape to = tapeOf(other);
        if (from == null || to == null) {
            return NONE;
        }
        if (!from.holdsSomething() || !to.holdsSomething()) {
            return NOTHING;
        }
        if (from.sort() != to.sort()) {
            return CAST;
        }
        if (!from.spans(i, n) || !to.spans(j, n)) {
            return NO_PLACE;
        }
        to.copyIn(j, from, i, n);
        return n;
    }

    private static boolean isAct(int act) {
        return act >= ACT_WAIT && act <= ACT_HIT;
    }

    private boolean isOver() {
        return walk.isOver(present.donkey);
    }

    private Law heldLaw() {
        int held = present.held;
        Law law = held >= 0 && held < laws.length ? laws[held] : noLaw;
        return law == null ? noLaw : law;
    }

    private Tape tapeOf(int tape) {
        return tape >= 0 && tape < tapes.length ? tapes[tape] : null;
    }

    private static int addOrClear(Strip strip, int n) {
        if (n == -1) {
            strip.clear();
            return 0;
        }
        return strip.add(n) ? strip.size() : FULL;
    }

    /** Numbers in a row, of which there is a most; made once, since every object that a run makes counts. */
    private static final class Strip {
        private final int[] items;
        private int size;

        Strip(int most) {
            items = new int[Math.max(0, most)];
        }

        int size() {
            return size;
        }

        /** -1 where there is none: no strip holds that. */
        int get(int i) {
            return i >= 0 && i < size && i < items.length ? items[i] : -1;
        }

        boolean add(int n) {
            if (size < 0 || size >= items.length) {
                return false;
            }
            items[size] = n;
            size++;
            return true;
        }

        void clear() {
            size = 0;
        }

        int placeOfLeast() {
            int least = -1;
            for (int i = 0; i < size; i++) {
                if (least < 0 || get(i) < get(least)) {
                    least = i;
                }
            }
            return least;
        }

        void become(Strip other) {
            clear();
            for (int i = 0; i < other.size(); i++) {
                add(other.get(i));
            }
        }
    }

    /** All that THE IMAGE takes. */
    private static final class Moment {
        final Donkey donkey = new Donkey();
        final Strip acts = new Strip(MOST_ACTS);
        final Strip seen = new Strip(MOST_ACTS);
        final Strip beasts = new Strip(MOST_BEASTS);
        int odds = 0;
        int held = -1;

        void become(Moment other) {
            donkey.become(other.donkey);
            acts.become(other.acts);
            seen.become(other.seen);
            beasts.become(other.beasts);
            odds = other.odds;
            held = other.held;
        }
    }

    private static final class Road {
        private static final int[] ABOVE = {-1, 0, 0, 0, 1, 2, 3};

        private final int[] kinds = new int[MOST_PLACES];
        private final int[] numbers = new int[MOST_PLACES];
        private final int[] things = new int[MOST_PLACES];
        private int size;

        int size() {
            return size;
        }

        boolean has(int place) {
            return place >= 0 && place < size;
        }

        int kindOf(int place) {
            return place >= 0 && place < size && place < kinds.length ? kinds[place] : -1;
        }

        int numberOf(int place) {
            return place >= 0 && place < size && place < numbers.length ? numbers[place] : 0;
        }

        int thingOf(int place) {
            return place >= 0 && place < size && place < things.length ? things[place] : -1;
        }

        int add(int kind, int v, int thing) {
            if (size < 0 || size >= MOST_PLACES) {
                return FULL;
            }
            kinds[size] = kind;
            numbers[size] = v;
            things[size] = thing;
            size++;
            return size - 1;
        }

        /** The KIND that a KIND stands under; -1 above STAND. */
        static int aboveOf(int kind) {
            return kind >= 0 && kind < ABOVE.length ? ABOVE[kind] : -1;
        }

        static boolean isUnder(int kind, int k) {
            int next = kind;
            for (int i = 0; i < ABOVE.length && next >= 0; i++) {
                if (next == k) {
                    return true;
                }
                next = aboveOf(next);
            }
            return false;
        }
    }

    private static final class Donkey {
        private static final int[] MOST =
            {99, 99, 99, 99, 99, 99, 99, 99, 99, 9, 99, 99, 10, 1, 1000000};

        private final int[] numbers = new int[MOST.length];

        Donkey() {
            Arrays.fill(numbers, 0, PAID, 10);
            numbers[HUNGER] = 20;
        }

        static int mostOf(int what) {
            return what >= 0 && what < MOST.length ? MOST[what] : 0;
        }

        int get(int what) {
            return what >= 0 && what < numbers.length ? numbers[what] : 0;
        }

        int tell(int what) {
            return what == LEARNT ? learnt() : get(what);
        }

        void put(int what, int n) {
            if (what >= 0 && what < numbers.length) {
                numbers[what] = n;
            }
        }

        /** Below 0 it is less; kept in its bounds. */
        void addTo(int what, int more) {
            if (what >= 0 && what < numbers.length && what < MOST.length) {
                int n = numbers[what] + more;
                numbers[what] = n < 0 ? 0 : n > MOST[what] ? MOST[what] : n;
            }
        }

        boolean sits() {
            return numbers[SITS] != 0;
        }

        int learnt() {
            int all = 0;
            for (int i = 0; i <= PAID && i < numbers.length; i++) {
                all += numbers[i];
            }
            return all;
        }

        void become(Donkey other) {
            System.arraycopy(other.numbers, 0, numbers, 0, numbers.length);
        }
    }

    /** CLAUSES; their E stand one behind the other in codes, each operator behind what it joins. */
    private static final class Law {
        static final int CODE_NOT = -1, CODE_AND = -2, CODE_OR = -3;
        /** The signs of a TEST, as they stand in Text.SIGNS. */
        private static final int LESS = 0, LIKE = 1;

        private final int[] words = new int[MOST_CLAUSES];
        private final int[] amounts = new int[MOST_CLAUSES];
        private final int[] starts = new int[MOST_CLAUSES];
        private int clauses;
        private final int[] codes = new int[MOST_SIGNS];
        private int codeCount;

        void clear() {
            clauses = 0;
            codeCount = 0;
        }

        void beginClause(int word, int n) {
            if (clauses >= 0 && clauses < MOST_CLAUSES) {
                words[clauses] = word;
                amounts[clauses] = n;
                starts[clauses] = codeCount;
                clauses++;
            }
        }

        void addCode(int code) {
            if (codeCount >= 0 && codeCount < MOST_SIGNS) {
                codes[codeCount] = code;
                codeCount++;
            }
        }

        static int codeOf(int letter, int sign, int n) {
            return letter * 1000 + sign * 100 + n;
        }

        /** The n of all clauses of a word whose E holds. */
        int together(int word, int[] facts) {
            int all = 0;
            for (int i = 0; i < clauses && i < MOST_CLAUSES; i++) {
                if (words[i] == word && isTrue(i, facts)) {
                    all += amounts[i];
                }
            }
            return all;
        }

        /** The n of the last clause of a word, or what counts without one. */
        int last(int word) {
            int n = word == WORD_LEAD ? 3 : word == WORD_HIT ? 5 : word == WORD_LOOK ? 2 : 9;
            for (int i = 0; i < clauses && i < MOST_CLAUSES; i++) {
                if (words[i] == word) {
                    n = amounts[i];
                }
            }
            return n;
        }

        /** The bits of one number are the stack: with 4 parts within another at most, 11 are ever open at once. */
        private boolean isTrue(int clause, int[] facts) {
            if (clause < 0 || clause >= MOST_CLAUSES) {
                return false;
            }
            int end = clause + 1 < clauses && clause + 1 < MOST_CLAUSES ? starts[clause + 1] : codeCount;
            int stack = 0;
            for (int i = starts[clause]; i >= 0 && i < end && i < MOST_SIGNS; i++) {
                int code = codes[i];
                int top = stack & 1;
                if (code == CODE_NOT) {
                    stack ^= 1;
                } else if (code == CODE_AND) {
                    stack = (stack >> 1) & (top | -2);
                } else if (code == CODE_OR) {
                    stack = (stack >> 1) | top;
                } else {
                    int letter = code / 1000;
                    int sign = code / 100 % 10;
                    int n = code % 100;
                    int fact = letter >= 0 && letter < facts.length ? facts[letter] : 0;
                    boolean so = sign == LESS ? fact < n : sign == LIKE ? fact == n : fact > n;
                    stack = stack << 1 | (so ? 1 : 0);
                }
            }
            return (stack & 1) == 1;
        }
    }

    /** THE TEXT; while it is read, pos stays at the FAULT once a part is not as told. */
    private static final class Text {
        private static final String LETTERS = "fhpwlsakt";
        private static final String SIGNS = "<=>";
        private static final int DEEPEST = 4;

        private final Strip signs = new Strip(MOST_SIGNS);
        private int pos;

        int size() {
            return signs.size();
        }

        boolean add(int sign) {
            return signs.add(sign);
        }

        void clear() {
            signs.clear();
        }

        /** The FAULT, or -1: all of it is a law, which out is now. */
        int readLaw(Law out) {
            pos = 0;
            out.clear();
            for (int i = 1; i <= MOST_CLAUSES; i++) {
                int word = readHead(out);
                if (word < 0) {
                    return pos;
                }
                boolean hasTerm = word <= WORD_HURT;
                if (hasTerm && !(next(' ') && readEither(out, 0))) {
                    return pos;
                }
                if (pos == signs.size()) {
                    return -1;
                }
                if (i == MOST_CLAUSES || !next(';')) {
                    return pos;
                }
            }
            return pos;
        }

        private boolean next(char sign) {
            if (signs.get(pos) != sign) {
                return false;
            }
            pos++;
            return true;
        }

        /** The word and the n of a CLAUSE: the word, or -1. */
        private int readHead(Law out) {
            int word = readWord();
            if (word < 0 || !next(' ')) {
                return -1;
            }
            int n = readNumber();
            if (n < 0) {
                return -1;
            }
            out.beginClause(word, n);
            return word;
        }

        private int readWord() {
            int most = 0;
            for (int word = WORD_GO; word <= WORD_FORD; word++) {
                String name = wordOf(word);
                int same = 0;
                while (same < name.length() && signs.get(pos + same) == name.charAt(same)) {
                    same++;
                }
                if (same == name.length()) {
                    pos += same;
                    return word;
                }
                most = Math.max(most, same);
            }
            pos += most;
            return -1;
        }

        private static String wordOf(int word) {
            switch (word) {
                case WORD_GO: return "go";
                case WORD_NOT: return "not";
                case WORD_HURT: return "hurt";
                case WORD_LEAD: return "lead";
                case WORD_HIT: return "hit";
                case WORD_LOOK: return "look";
                default: return "ford";
            }
        }

        /** One or two digits; -1: there is none. */
        private int readNumber() {
            int n = -1;
            for (int i = 0; i < 2; i++) {
                int digit = signs.get(pos) - '0';
                if (digit < 0 || digit > 9) {
                    return n;
                }
                n = i == 0 ? digit : n * 10 + digit;
                pos++;
            }
            return n;
        }

        /** An E, within as many ( and ! as the depth tells. */
        private boolean readEither(Law out, int depth) {
            boolean ended = false;
            for (int i = 0; i < MOST_SIGNS && !ended; i++) {
                if (!readBoth(out, depth)) {
                    return false;
                }
                if (i > 0) {
                    out.addCode(Law.CODE_OR);
                }
                ended = !next('|');
            }
            return ended;
        }

        private boolean readBoth(Law out, int depth) {
            boolean ended = false;
            for (int i = 0; i < MOST_SIGNS && !ended; i++) {
                if (!readSingle(out, depth)) {
                    return false;
                }
                if (i > 0) {
                    out.addCode(Law.CODE_AND);
                }
                ended = !next('&');
            }
            return ended;
        }

        private boolean readSingle(Law out, int depth) {
            int nots = 0;
            while (depth + nots < DEEPEST && next('!')) {
                nots++;
            }
            boolean opens = depth + nots < DEEPEST && next('(');
            boolean isRead = opens ? readEither(out, depth + nots + 1) && next(')') : readTest(out);
            for (int i = 0; i < nots && isRead; i++) {
                out.addCode(Law.CODE_NOT);
            }
            return isRead;
        }

        private boolean readTest(Law out) {
            int letter = placeIn(LETTERS);
            if (letter < 0) {
                return false;
            }
            pos++;
            int sign = placeIn(SIGNS);
            if (sign < 0) {
                return false;
            }
            pos++;
            int n = readNumber();
            if (n < 0) {
                return false;
            }
            out.addCode(Law.codeOf(letter, sign, n));
            return true;
        }

        private int placeIn(String among) {
            int sign = signs.get(pos);
            return sign < 0 ? -1 : among.indexOf((char) sign);
        }
    }

    /** A DONKEY on the road under the law that holds: what drives it, and what comes of an act. */
    private static final class Walk {
        private static final int REASONS = 7;
        private static final int SITTING_COUNTS = 15;

        private final Road road;
        private Law law;
        /** What the letters of a law tell, in the order of Text.LETTERS. */
        private final int[] facts = new int[9];
        /** What the latest DRIVE was less by, in the order of WHY: kept, since that asks for it. */
        private final int[] less = new int[REASONS];

        Walk(Road road, Law law) {
            this.road = road;
            this.law = law;
        }

        void obey(Law newest) {
            law = newest;
        }

        boolean isOver(Donkey d) {
            return !road.has(d.get(AT));
        }

        int fearThere(Donkey d) {
            return d.get(road.thingOf(d.get(AT)));
        }

        int lastOf(int word) {
            return law.last(word);
        }

        int halfMinutesOf(int act) {
            return act == ACT_FORD ? Math.max(1, law.last(WORD_FORD)) : 1;
        }

        int togetherOf(Donkey d, int word) {
            lookAround(d);
            return law.together(word, facts);
        }

        private void lookAround(Donkey d) {
            int left = d.get(LEFT);
            int right = d.get(RIGHT);
            int at = d.get(AT);
            facts[0] = d.get(road.thingOf(at));
            facts[1] = d.get(HUNGER);
            facts[2] = d.get(PAID);
            facts[3] = d.get(WEAR);
            facts[4] = Math.abs(left - right);
            facts[5] = Math.min(99, left + right);
            facts[6] = at;
            facts[7] = road.kindOf(at);
            facts[8] = d.get(HALF_MINUTES) % 60;
        }

        /** DRIVE with an ACT. */
        int weigh(Donkey d, int act) {
            int at = d.get(AT);
            int kind = road.kindOf(at);
            boolean sore = kind == KIND_SORE || kind == KIND_TIRED;
            boolean spoilt = kind == KIND_SPOILT || kind == KIND_CALLED;
            lookAround(d);
            less[0] = law.together(WORD_NOT, facts);
            less[1] = fearThatCounts(d, act);
            less[2] = sore ? law.together(WORD_HURT, facts) : 0;
            less[3] = spoilt ? d.get(PAID) : 0;
            less[4] = kind == KIND_TIRED ? d.get(WEAR) / 2 : 0;
            less[5] = kind == KIND_CALLED ? road.numberOf(at) * at : 0;
            less[6] = d.sits() ? SITTING_COUNTS : 0;
            int drive = law.together(WORD_GO, facts) + moreBy(d, act);
            for (int i = 0; i < less.length; i++) {
                drive -= less[i];
            }
            return drive;
        }

        private int moreBy(Donkey d, int act) {
            switch (act) {
                case ACT_LEAD: return law.last(WORD_LEAD);
                case ACT_FEED: return d.get(HUNGER) / 2;
                case ACT_HIT: return law.last(WORD_HIT);
                case ACT_BACK: return -20;
                default: return 0;
            }
        }

        private int fearThatCounts(Donkey d, int act) {
            if (act == ACT_BACK) {
                return 0;
            }
            int at = d.get(AT);
            int whole = d.get(road.thingOf(at));
            int fear = act == ACT_COVER ? whole / 2 : whole;
            switch (road.kindOf(at)) {
                case KIND_FEARED: return fear * 2;
                case KIND_LOOKING: return Math.max(0, fear * 2 - road.numberOf(at) * d.get(LOOKS));
                default: return fear;
            }
        }

        int mostAgainst(Donkey d) {
            if (weigh(d, ACT_WAIT) > 0) {
                return NEVER;
            }
            int most = 0;
            for (int i = 1; i < less.length; i++) {
                if (less[i] > less[most]) {
                    most = i;
                }
            }
            return most;
        }

        /** What it does with an ACT. */
        int doing(Donkey d, int act) {
            if (isOver(d)) {
                return NEVER;
            }
            return act == ACT_FORD ? GOES : doneBy(weigh(d, act));
        }

        private static int doneBy(int drive) {
            if (drive > 0) {
                return GOES;
            }
            if (drive >= -14) {
                return STANDS;
            }
            return drive >= -39 ? BACKS : SITS_DOWN;
        }

        /** The driver does an ACT, DRIVE being less by wandering: what it does. */
        int step(Donkey d, int act, int wandering) {
            if (isOver(d)) {
                return NEVER;
            }
            int done = GOES;
            if (act == ACT_FORD) {
                d.addTo(PAID, 10);
                leave(d, 1);
            } else {
                done = doneBy(weigh(d, act) - wandering);
                int thing = road.thingOf(d.get(AT));
                follow(d, act, done, thing);
                answer(d, act, done, thing);
            }
            d.addTo(HALF_MINUTES, halfMinutesOf(act));
            return done;
        }

        private static void leave(Donkey d, int by) {
            d.addTo(AT, by);
            d.put(LOOKS, 0);
            d.put(SITS, 0);
        }

        /** What comes of what it does. */
        private void follow(Donkey d, int act, int done, int thing) {
            switch (done) {
                case GOES:
                    d.addTo(thing, -5);
                    d.addTo(WEAR, 1);
                    leave(d, 1);
                    break;
                case STANDS:
                    if (act != ACT_HIT) {
                        d.addTo(thing, -law.last(WORD_LOOK));
                        d.addTo(LOOKS, 1);
                    }
                    d.put(SITS, 0);
                    break;
                case BACKS:
                    leave(d, -1);
                    break;
                default:
                    d.put(SITS, 1);
                    d.addTo(WEAR, -1);
                    break;
            }
        }

        /** What comes of what the driver did. */
        private static void answer(Donkey d, int act, int done, int thing) {
            boolean went = done == GOES;
            switch (act) {
                case ACT_LEAD:
                    d.addTo(PAID, went ? 0 : -1);
                    break;
                case ACT_FEED:
                    d.addTo(PAID, went ? -1 : 5);
                    d.addTo(HUNGER, -3);
                    break;
                case ACT_UNLOAD:
                    d.addTo(LEFT, -5);
                    d.addTo(RIGHT, -5);
                    break;
                case ACT_HIT:
                    d.addTo(thing, went ? 0 : 3);
                    d.addTo(PAID, went ? 0 : -2);
                    break;
                default:
                    break;
            }
        }
    }

    /** All that is asked: tried on copies of THE DONKEY, so that asking changes nothing. */
    private static final class Trial {
        private static final int WANDERING = 10;

        private final Walk walk;
        private final Moment present;
        /** THE DONKEY ahead of a row that is tried, and behind each ACT of it. */
        private final Donkey[] stages = new Donkey[LONGEST_CHANCE + 1];
        private final Donkey spare = new Donkey();
        private final int[] tried = new int[LONGEST_SEARCH];
        private final int[] best = new int[LONGEST_SEARCH];
        private int bestSize;
        private int bestLearnt;
        private int goal;

        Trial(Walk walk, Moment present) {
            this.walk = walk;
            this.present = present;
            for (int i = 0; i < stages.length; i++) {
                stages[i] = new Donkey();
            }
        }

        private Donkey stage(int i) {
            Donkey d = i >= 0 && i < stages.length ? stages[i] : spare;
            return d == null ? spare : d;
        }

        /** The next stage, as all is behind as many ACTS as the depth tells. */
        private Donkey stageAfter(int depth) {
            Donkey d = stage(depth + 1);
            d.become(stage(depth));
            return d;
        }

        /** THE DONKEY as it is, to be changed; the goal is 1 beyond where it is. */
        private Donkey begin() {
            Donkey d = stage(0);
            d.become(present.donkey);
            goal = d.get(AT) + 1;
            return d;
        }

        Donkey byHand(int n) {
            Donkey d = begin();
            doRow(d, n);
            return d;
        }

        private void doRow(Donkey d, int n) {
            for (int i = 0; i < n && i < present.acts.size(); i++) {
                walk.step(d, present.acts.get(i), 0);
            }
        }

        Donkey afterDays(int n) {
            Donkey d = begin();
            for (int day = 0; day < n && day < MOST_DAYS; day++) {
                d.put(AT, 0);
                d.put(LOOKS, 0);
                d.put(SITS, 0);
                doRow(d, MOST_ACTS);
            }
            return d;
        }

        int waiting() {
            Donkey d = begin();
            for (int i = 1; i <= LONGEST_WAIT; i++) {
                walk.step(d, ACT_WAIT, 0);
                if (d.get(AT) == goal) {
                    return i;
                }
            }
            return NEVER;
        }

        int bestShift() {
            int leastHurt = hurtWith(0);
            int shift = 0;
            for (int size = 1; size <= 99; size++) {
                for (int sign = 1; sign >= -1; sign -= 2) {
                    int hurt = hurtWith(size * sign);
                    if (hurt >= 0 && hurt < leastHurt) {
                        leastHurt = hurt;
                        shift = size * sign;
                    }
                }
            }
            return shift;
        }

        /** HURT if so much of the LOADS went over; -1: they can't hold that. */
        private int hurtWith(int shift) {
            Donkey d = begin();
            int left = d.get(LEFT) - shift;
            int right = d.get(RIGHT) + shift;
            if (left < 0 || left > 99 || right < 0 || right > 99) {
                return -1;
            }
            d.put(LEFT, left);
            d.put(RIGHT, right);
            return walk.togetherOf(d, WORD_HURT);
        }

        int firstOtherwise() {
            Donkey d = begin();
            for (int i = 0; i < present.acts.size() && i < present.seen.size(); i++) {
                if (walk.step(d, present.acts.get(i), 0) != present.seen.get(i)) {
                    return i;
                }
            }
            return NEVER;
        }

        int firstMistold(Tape told, int from) {
            Donkey d = begin();
            for (int i = 0; i < present.acts.size(); i++) {
                if (from < 0 || from > MOST_ITEMS || !told.has(from + i)) {
                    return 100 + i;
                }
                walk.step(d, present.acts.get(i), 0);
                if (told.get(from + i) != d.get(AT)) {
                    return i;
                }
            }
            return NEVER;
        }

        /** How many ACTS the soonest row within k has, which found() then tells. */
        int findSoonest(int k) {
            begin();
            bestSize = k + 1;
            trySooner(0);
            if (bestSize > k) {
                bestSize = NEVER;
            }
            return bestSize;
        }

        int findGentlest(int n) {
            begin();
            bestSize = NEVER;
            tryGentler(0, n);
            return bestSize == NEVER ? NEVER : bestLearnt;
        }

        int found(int i) {
            return i >= 0 && i < bestSize && i < best.length ? best[i] : NEVER;
        }

        private void trySooner(int depth) {
            for (int act = ACT_WAIT; act <= ACT_HIT; act++) {
                if (act != ACT_FORD) {
                    trySoonerWith(depth, act);
                }
            }
        }

        /** The rows come in order, so the first of its size stays: none as long as the best is looked at. */
        private void trySoonerWith(int depth, int act) {
            if (depth < 0 || depth >= tried.length || depth + 1 >= bestSize) {
                return;
            }
            Donkey d = stageAfter(depth);
            walk.step(d, act, 0);
            tried[depth] = act;
            if (d.get(AT) == goal) {
                keepTried(depth + 1);
            } else {
                trySooner(depth + 1);
            }
        }

        private void tryGentler(int depth, int n) {
            if (depth >= n) {
                keepGentler(stage(depth), n);
                return;
            }
            for (int act = ACT_WAIT; act <= ACT_HIT; act++) {
                if (act != ACT_FORD) {
                    tryGentlerWith(depth, n, act);
                }
            }
        }

        private void tryGentlerWith(int depth, int n, int act) {
            if (depth < 0 || depth >= tried.length) {
                return;
            }
            walk.step(stageAfter(depth), act, 0);
            tried[depth] = act;
            tryGentler(depth + 1, n);
        }

        private void keepGentler(Donkey behind, int n) {
            int learnt = behind.learnt();
            if (behind.get(AT) >= goal && (bestSize == NEVER || learnt < bestLearnt)) {
                bestLearnt = learnt;
                keepTried(n);
            }
        }

        private void keepTried(int size) {
            bestSize = size;
            System.arraycopy(tried, 0, best, 0, best.length);
        }

        /** SURE of n: the fraction's upper (part 0) or lower part. */
        long chanceOf(int n, int part) {
            begin();
            long above = waysFrom(0, n);
            long below = 1;
            for (int i = 0; i < n && i < LONGEST_CHANCE; i++) {
                below *= WORST_ODDS;
            }
            // below is made of 2 and 5 alone
            for (int i = 0; i < LONGEST_CHANCE; i++) {
                if (above % 2 == 0 && below % 2 == 0) {
                    above /= 2;
                    below /= 2;
                }
                if (above % 5 == 0 && below % 5 == 0) {
                    above /= 5;
                    below /= 5;
                }
            }
            return part == 0 ? above : below;
        }

        /** In how many of 10 ways for each ACT that is left it gets to the goal. */
        private long waysFrom(int depth, int n) {
            if (depth >= n || depth >= LONGEST_CHANCE) {
                return stage(depth).get(AT) >= goal ? 1 : 0;
            }
            int odds = present.acts.get(depth) == ACT_FORD ? 0 : present.odds;
            return (WORST_ODDS - odds) * waysWith(depth, n, 0) + odds * waysWith(depth, n, WANDERING);
        }

        private long waysWith(int depth, int n, int wandering) {
            walk.step(stageAfter(depth), present.acts.get(depth), wandering);
            return waysFrom(depth + 1, n);
        }
    }

    /** PARTS of a PLACE: bodies that stand at KINDS, and the numbers of those that ran. */
    private static final class Bodies {
        private static final int HOLDS = 0, CHOOSES = 1, TELLS = 2;
        private static final int MOST_KEPT = 20, DEEPEST = 40;
        /** Of each KIND its three bodies; 0: it has none. */
        private static final int[] BODIES = {
            10, 11, 12,
            0, 20, 0,
            30, 0, 0,
            0, 0, 40,
            50, 51, 0,
            0, 0, 60,
            71, 70, 0
        };

        private final Road road;
        private final Strip numbers = new Strip(MOST_KEPT);
        private int ran;
        private int kind;
        private int v;
        private int number;

        Bodies(Road road) {
            this.road = road;
        }

        int ran() {
            return ran;
        }

        int kept(int i) {
            return numbers.get(i);
        }

        int ask(int place, int part, int x) {
            numbers.clear();
            ran = 0;
            if (!road.has(place) || part < HOLDS || part > TELLS) {
                return 0;
            }
            kind = road.kindOf(place);
            v = road.numberOf(place);
            number = place;
            return run(kind, part, x, 0);
        }

        /** The number of the body of a KIND, or of the next above that has one. */
        private static int bodyOf(int from, int part) {
            int next = from;
            for (int i = 0; i < BODIES.length; i++) {
                int index = next * 3 + part;
                if (next < 0 || index < 0 || index >= BODIES.length) {
                    return 0;
                }
                if (BODIES[index] != 0) {
                    return BODIES[index];
                }
                next = Road.aboveOf(next);
            }
            return 0;
        }

        /** The body of a KIND, or of the next above; the depth is how many stand open. */
        private int run(int from, int part, int x, int depth) {
            if (depth >= DEEPEST) {
                return 0;
            }
            int body = bodyOf(from, part);
            ran++;
            numbers.add(body);
            return answer(body, x, depth + 1);
        }

        private int answer(int body, int x, int depth) {
            switch (body) {
                case 10: return x + number;
                case 11: return run(kind, HOLDS, x, depth) - v;
                case 12: return run(kind, CHOOSES, x, depth) * 2;
                case 20: return run(KIND_STAND, CHOOSES, x, depth) ^ 6;
                case 30: return run(KIND_STAND, HOLDS, x * 3, depth);
                case 40: return run(KIND_STAND, TELLS, x, depth) + run(kind, CHOOSES, 1, depth);
                case 50: return -run(KIND_FEARED, HOLDS, x, depth);
                case 51: return run(KIND_FEARED, CHOOSES, x + 1, depth);
                case 60: return run(KIND_SORE, TELLS, x - number, depth);
                case 70: return run(KIND_SPOILT, CHOOSES, x, depth) + run(KIND_SPOILT, HOLDS, 2, depth);
                case 71: return run(KIND_SPOILT, HOLDS, x, depth) ^ v;
                default: return 0;
            }
        }
    }

    /** A row of one sort; each item is kept as the long that it is read as. */
    private static final class Tape {
        static final int EMPTY = -1, BYTES = 0, SHORTS = 1, INTS = 2, BOOLEANS = 4;

        private final long[] items = new long[MOST_ITEMS];
        private int sort = EMPTY;
        private int size;

        int sort() {
            return sort;
        }

        boolean holdsSomething() {
            return sort != EMPTY;
        }

        void renew(int newSort, int n) {
            sort = newSort;
            size = Math.max(0, Math.min(MOST_ITEMS, n));
            Arrays.fill(items, 0);
        }

        boolean has(int i) {
            return i >= 0 && i < size && i < MOST_ITEMS;
        }

        boolean spans(int i, int n) {
            return n >= 0 && i >= 0 && n <= size && i <= size - n;
        }

        long get(int i) {
            return has(i) ? items[i] : 0;
        }

        void put(int i, long v) {
            if (has(i)) {
                items[i] = cut(v);
            }
        }

        private long cut(long v) {
            switch (sort) {
                case BYTES: return (byte) v;
                case SHORTS: return (short) v;
                case INTS: return (int) v;
                case BOOLEANS: return v == 0 ? 0 : 1;
                default: return v;
            }
        }

        void copyIn(int j, Tape from, int i, int n) {
            if (spans(j, n) && from.spans(i, n)) {
                System.arraycopy(from.items, i, items, j, n);
            }
        }
    }
}
