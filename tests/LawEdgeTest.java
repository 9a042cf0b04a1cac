/** Terms 1 (laws) and promises 6 to 8: each sentence that names a bound, the first byte that does not fit, the ends. */
public final class LawEdgeTest {
    private static final String TEN = State.LONGEST_LAW;

    private static int law(String text) {
        return Check.law(new DonkeyBridge(), text);
    }

    private static void fault(Check c, String text, int place) {
        c.due("law of " + text, law(text), -10 - place);
    }

    private static void good(Check c, String text) {
        c.due("law of " + text, law(text), 0);
    }

    private static void text(Check c) {
        c.about("A sign (0 .. 127)");
        DonkeyBridge x = new DonkeyBridge();
        c.due("sign -1", x.feed(-1), -2);
        c.due("sign 128", x.feed(128), -2);
        c.due("none came", x.count(5), 0);
        c.due("sign 0", x.feed(0), 1);
        c.due("sign 127", x.feed(127), 2);
        c.due("two came", x.count(5), 2);

        c.about("THE TEXT (bytes, 100 at most)");
        x = new DonkeyBridge();
        for (int i = 1; i <= 100; i++) {
            c.due("sign " + i, x.feed(TEN.charAt(i - 1)), i);
        }
        c.due("sign 101", x.feed(';'), -4);
        c.due("sign 101, which is none", x.feed(128), -2);
        c.due("how many", x.count(5), 100);
        c.due("a law of 100 signs, as it was ahead of what was refused", x.law(), 0);
        c.about("THE TEXT, which is empty then");
        c.due("how many", x.count(5), 0);
        c.due("there is nothing to read", x.law(), -10);
        c.due("the first sign", x.feed('h'), 1);
        c.due("a fault", x.law(), -11);
        c.due("empty behind a fault too", x.count(5), 0);
        c.due("the first sign again", x.feed('h'), 1);
    }

    private static void clauses(Check c) {
        c.about("CLAUSES, 1 to 10");
        fault(c, "", 0);
        good(c, "hit 1");
        StringBuilder many = new StringBuilder("hit 0");
        for (int i = 1; i < 10; i++) {
            many.append(";hit ").append(i);
            good(c, many.toString());
        }
        fault(c, many + ";", many.length());
        fault(c, many + ";hit 1", many.length());
        DonkeyBridge x = new DonkeyBridge();
        Check.law(x, many.toString());
        c.due("the tenth is read", x.told(4), 9);
        c.due("ten clauses in 100 signs", law(TEN), 0);
        c.due("ten clauses in 100 signs, together", toldOf(TEN, 0), 10);

        c.about("with ; between");
        fault(c, ";hit 1", 0);
        fault(c, "hit 1;", 6);
        fault(c, "hit 1;;hit 1", 6);
        fault(c, "hit 1,hit 1", 5);
        fault(c, "hit 1 ;hit 1", 5);
        fault(c, "hit 1hit 1", 5);
        good(c, "hit 1;hit 1");
        good(c, "go 1 a=1;not 1 a=1;hurt 1 a=1;lead 1;hit 1;look 1;ford 1");
    }

    private static int toldOf(String text, int what) {
        DonkeyBridge x = new DonkeyBridge();
        x.place(0, 0, 0);
        Check.law(x, text);
        return x.told(what);
    }

    private static void parts(Check c) {
        c.about("one blank ahead of each part behind the word");
        for (String word : new String[] {"lead", "hit", "look", "ford"}) {
            int n = word.length();
            fault(c, word, n);
            fault(c, word + "1", n);
            fault(c, word + " ", n + 1);
            fault(c, word + "  1", n + 1);
            fault(c, word + "\t1", n);
            fault(c, word + " 1 ", n + 2);
            fault(c, " " + word + " 1", 0);
            fault(c, word + " 1 a=1", n + 2);
            good(c, word + " 1");
        }
        for (String word : new String[] {"go", "not", "hurt"}) {
            int n = word.length();
            fault(c, word, n);
            fault(c, word + "1 a=1", n);
            fault(c, word + " ", n + 1);
            fault(c, word + "  1 a=1", n + 1);
            fault(c, word + " 1", n + 2);
            fault(c, word + " 1;", n + 2);
            fault(c, word + " 1a=1", n + 2);
            fault(c, word + " 1 ", n + 3);
            fault(c, word + " 1  a=1", n + 3);
            fault(c, word + " 1 a =1", n + 4);
            fault(c, word + " 1 a= 1", n + 5);
            fault(c, word + " 1 a=1 ", n + 6);
            fault(c, word + " 1 a=1 &a=1", n + 6);
            fault(c, word + " 1 a=1& a=1", n + 7);
            fault(c, word + " 1 (a=1 )", n + 7);
            fault(c, word + " 1 ( a=1)", n + 4);
            fault(c, word + " 1 ! a=1", n + 4);
            good(c, word + " 1 a=1");
        }

        c.about("n 1 or 2 digits");
        for (String word : new String[] {"lead", "hit", "look", "ford"}) {
            int n = word.length();
            fault(c, word + " ;", n + 1);
            fault(c, word + " -1", n + 1);
            fault(c, word + " /", n + 1);
            fault(c, word + " :", n + 1);
            good(c, word + " 0");
            good(c, word + " 9");
            good(c, word + " 00");
            good(c, word + " 99");
            fault(c, word + " 100", n + 3);
            fault(c, word + " 000", n + 3);
            fault(c, word + " 1/", n + 2);
            fault(c, word + " 1:", n + 2);
        }
        for (String word : new String[] {"go", "not", "hurt"}) {
            int n = word.length();
            fault(c, word + " -1 a=1", n + 1);
            good(c, word + " 0 a=1");
            good(c, word + " 00 a=1");
            good(c, word + " 99 a=1");
            fault(c, word + " 100 a=1", n + 3);
        }

        c.about("a number (1 or 2 digits)");
        fault(c, "go 1 a=", 7);
        fault(c, "go 1 a=;", 7);
        fault(c, "go 1 a=/", 7);
        fault(c, "go 1 a=:", 7);
        fault(c, "go 1 (a=)", 8);
        good(c, "go 1 a=0");
        good(c, "go 1 a=00");
        good(c, "go 1 a=99");
        good(c, "go 1 (a=99)");
        fault(c, "go 1 a=100", 9);
        fault(c, "go 1 a=1/", 8);
        fault(c, "go 1 a=1:", 8);
    }

    private static void within(Check c) {
        c.about("A ( or ! within 4 others is none");
        String[] signs = {"(", "!"};
        for (int way = 0; way < 32; way++) {
            StringBuilder four = new StringBuilder();
            StringBuilder ends = new StringBuilder();
            for (int i = 0; i < 4; i++) {
                String sign = signs[way >> i & 1];
                four.append(sign);
                ends.append(sign.equals("(") ? ")" : "");
            }
            good(c, "go 1 " + four + "a=1" + ends);
            fault(c, "go 1 " + four + signs[way >> 4] + "a=1" + ends, 9);
            fault(c, "go 1 " + four.substring(0, 3) + "(a=1|a=2&" + signs[way >> 4] + "a=1)" + ends, 17);
        }
        c.about("A ( or ! within 4 others is none: those that are closed count no more");
        good(c, "go 1 ((((a=1))))&((((a=1))))|((((a=1))))");
        good(c, "go 1 !!!!a=1&!!!!a=1|!!!!a=1");
        good(c, "go 1 ((((a=1)|(a=1)&!a=1)))");
        good(c, "go 1 (((!a=1|!a=1)&(a=1)))");
        good(c, "go 1 !(!(a=1)&!a=1)&!!!(a=1)");
        fault(c, "go 1 (((!a=1|!(a=1))))", 14);
        fault(c, "go 1 !!!(!a=1)", 9);
        fault(c, "go 1 !!!(a=1|!a=1)", 13);
        good(c, "go 1 ((((a=1))));go 1 ((((a=1))))");
        c.about("(E): each ( has its )");
        fault(c, "go 1 (a=1", 9);
        fault(c, "go 1 ((((a=1)))", 15);
        fault(c, "go 1 ((((a=1)))))", 16);
        fault(c, "go 1 a=1)", 8);
        fault(c, "go 1 ()", 6);
        fault(c, "go 1 )", 5);
    }

    /** Each sign that may stand at a place goes on there; each other one is the FAULT. */
    private static void allSigns(Check c, String ahead, String good, String behind) {
        for (char sign = 0; sign < 128; sign++) {
            boolean fits = good.indexOf(sign) >= 0;
            int got = law(ahead + sign + behind);
            c.due("sign " + (int) sign + " behind " + ahead, got == -10 - ahead.length() ? 0 : 1, fits ? 1 : 0);
        }
    }

    private static void signs(Check c) {
        c.about("the place of the first byte with which none begins so");
        allSigns(c, "", "gnhlf", "~");
        allSigns(c, "g", "o", "~");
        allSigns(c, "n", "o", "~");
        allSigns(c, "no", "t", "~");
        allSigns(c, "h", "ui", "~");
        allSigns(c, "hu", "r", "~");
        allSigns(c, "hur", "t", "~");
        allSigns(c, "hi", "t", "~");
        allSigns(c, "l", "eo", "~");
        allSigns(c, "le", "a", "~");
        allSigns(c, "lea", "d", "~");
        allSigns(c, "lo", "o", "~");
        allSigns(c, "loo", "k", "~");
        allSigns(c, "f", "o", "~");
        allSigns(c, "fo", "r", "~");
        allSigns(c, "for", "d", "~");
        allSigns(c, "go", " ", "~");
        allSigns(c, "go ", "0123456789", "~");
        allSigns(c, "go 1", "0123456789 ", "~");
        allSigns(c, "go 12", " ", "~");
        allSigns(c, "go 1 ", "fhpwlsakt!(", "~");
        allSigns(c, "go 1 a", "<=>", "~");
        allSigns(c, "go 1 a=", "0123456789", "~");
        allSigns(c, "go 1 a=1", "0123456789&|;", "~");
        allSigns(c, "go 1 a=12", "&|;", "~");
        allSigns(c, "go 1 a=1&", "fhpwlsakt!(", "~");
        allSigns(c, "go 1 a=1|", "fhpwlsakt!(", "~");
        allSigns(c, "go 1 (", "fhpwlsakt!(", "~");
        allSigns(c, "go 1 (a=1", "0123456789&|)", "~");
        allSigns(c, "go 1 (a=12", "&|)", "~");
        allSigns(c, "go 1 (a=1)", "&|;", "~");
        allSigns(c, "go 1 !", "fhpwlsakt!(", "~");
        allSigns(c, "go 1 !a=12", "&|;", "~");
        allSigns(c, "go 1 ((((", "fhpwlsakt", "~");
        allSigns(c, "go 1 !!!!", "fhpwlsakt", "~");
        allSigns(c, "hit 1", "0123456789;", "~");
        allSigns(c, "hit 12", ";", "~");
        allSigns(c, "hit 12;", "gnhlf", "~");
    }

    private static void ends(Check c) {
        c.about("the end of THE TEXT, if it ends too early");
        String rich = "go 12 !(f<1|h=22&!(p>3))&w=4;not 1 l<5|s>66;hurt 0 a=7&k<8|t>9;lead 10;hit 1;look 2;ford 33";
        for (int n = 0; n < rich.length(); n++) {
            String text = rich.substring(0, n);
            c.due("the first " + n + " signs", law(text), isWhole(text) ? 0 : -10 - n);
            c.due("the first " + n + " signs and one that never fits", law(text + "~"), -10 - n);
        }
        good(c, rich);
        c.about("a FAULT at the last of 100 signs, and at the end of 100");
        fault(c, TEN.substring(0, 99) + "~", 99);
        fault(c, TEN.substring(0, 90) + "go 001 a<9", 95);
        fault(c, TEN.substring(0, 90) + "go 1 (a<99", 100);
        fault(c, TEN.substring(0, 90) + "hit 1;hit ", 95);
        fault(c, TEN.substring(0, 90) + "go 1 a<9&!", 100);
        fault(c, TEN.substring(0, 80) + "hit 1;hit 1;hit 1;hi", 91);
        fault(c, "go 01 a<99;".repeat(9) + "g", 100);
    }

    /** Whether a start of the rich text above is itself a law. */
    private static boolean isWhole(String start) {
        String clause = start.substring(start.lastIndexOf(';') + 1);
        int open = 0;
        for (char sign : clause.toCharArray()) {
            open += sign == '(' ? 1 : sign == ')' ? -1 : 0;
        }
        String form = "(go|not|hurt) \\d+ .*([<=>]\\d+|\\))|(lead|hit|look|ford) \\d+";
        return open == 0 && clause.matches(form);
    }

    private static void newest(Check c) {
        c.about("without one there are no CLAUSES");
        DonkeyBridge x = new DonkeyBridge();
        x.place(2, 0, 0);
        int[] without = {0, 0, 0, 3, 5, 2, 9};
        for (int what = 0; what <= 6; what++) {
            c.due("told " + what, x.told(what), without[what]);
        }
        c.about("The newest LAW holds (6 at most)");
        for (int i = 0; i < 6; i++) {
            c.due("law " + i, Check.law(x, "lead 1" + i + ";go " + i + " a=0"), i);
            c.due("it holds", x.told(3), 10 + i);
            c.due("it holds for GO", x.told(0), i);
            c.due("how many", x.count(1), i + 1);
            c.about("-10 less the FAULT (the one that held holds)");
            if (i < 5) {
                c.due("a fault", Check.law(x, "lead 99;go 99 a=0;x"), -10 - 18);
                c.due("THE TEXT is empty", x.count(5), 0);
            }
            c.due("the one that held holds", x.told(3), 10 + i);
            c.due("the one that held holds for GO", x.told(0), i);
            c.due("no law more", x.count(1), i + 1);
        }
        c.about("FULL: there are 6 (THE TEXT stays)");
        c.due("a seventh", Check.law(x, "lead 99"), -4);
        c.due("THE TEXT stays", x.count(5), 7);
        c.due("and grows on", x.feed('x'), 8);
        c.due("FULL ahead of the FAULT", x.law(), -4);
        c.due("THE TEXT stays still", x.count(5), 8);
        c.due("the sixth holds", x.told(3), 15);
        c.due("six laws", x.count(1), 6);
        c.due("of an empty text too", emptyOfSix(), -4);
    }

    private static int emptyOfSix() {
        DonkeyBridge x = new DonkeyBridge();
        for (int i = 0; i < 6; i++) {
            Check.law(x, "hit 1");
        }
        return x.law();
    }

    private static void oneOfTen(Check c) {
        c.about("GO: the n of all go whose E holds: each of ten CLAUSES alone, and all but each");
        for (int one = 0; one < 10; one++) {
            StringBuilder alone = new StringBuilder();
            StringBuilder others = new StringBuilder();
            for (int i = 0; i < 10; i++) {
                String between = i == 0 ? "" : ";";
                alone.append(between).append("go ").append(i).append(i == one ? " a=0" : " a=1");
                others.append(between).append("go ").append(i).append(i == one ? " a=1" : " a=0");
            }
            c.due(alone.toString(), toldOf(alone.toString(), 0), one);
            c.due(others.toString(), toldOf(others.toString(), 0), 45 - one);
        }
    }

    private static void together(Check c) {
        c.about("GO: the n of all go whose E holds, together. NOT, HURT: likewise");
        String[] words = {"go", "not", "hurt"};
        for (int what = 0; what <= 2; what++) {
            StringBuilder all = new StringBuilder(words[what] + " 99 a<9");
            for (int i = 1; i < 8; i++) {
                all.append(";").append(words[what]).append(" 99 a<9");
            }
            c.due("eight of " + words[what], toldOf(all.toString(), what), 8 * 99);
            c.due("none of " + words[what], toldOf("hit 1", what), 0);
            c.due("one that does not hold of " + words[what], toldOf(words[what] + " 99 a>0", what), 0);
            c.due("some of " + words[what], toldOf(words[what] + " 1 a=0;" + words[what] + " 2 a=1;" + words[what]
                + " 40 a<1;hit 9", what), 41);
            c.due("with n 0 of " + words[what], toldOf(words[what] + " 0 a=0", what), 0);
            c.due("others are not in it", toldOf(words[what] + " 3 a=0", (what + 1) % 3), 0);
        }
        c.due("ten go in 100 signs", toldOf(TEN, 0), 10);

        c.about("lead (3 without), hit (5), look (2), ford (9): the last one's n");
        String[] names = {"lead", "hit", "look", "ford"};
        int[] without = {3, 5, 2, 9};
        for (int i = 0; i < names.length; i++) {
            String other = names[(i + 1) % 4];
            c.due(names[i] + " without", toldOf(other + " 77", 3 + i), without[i]);
            c.due(names[i] + " 0", toldOf(names[i] + " 0", 3 + i), 0);
            c.due(names[i] + " 00", toldOf(names[i] + " 00", 3 + i), 0);
            c.due(names[i] + " 99", toldOf(names[i] + " 99", 3 + i), 99);
            c.due(names[i] + ", the last one's", toldOf(names[i] + " 98;" + other + " 50;" + names[i] + " 7;" + other
                + " 51", 3 + i), 7);
            c.due(names[i] + " when it is over", Check.road(names[i] + " 8").told(3 + i), 8);
        }
    }

    /** Whether E holds at place 9 of ten, of kind 6 and thing 5, with numbers set. */
    private static int holds(String e, int... set) {
        DonkeyBridge x = Check.road("go 1 " + e, 0, 0, 0, 0, 0, 0, 0, 0, 0, 0, 0, 0, 0, 0, 0, 0, 0, 0, 0, 0, 0, 0, 0, 0, 0, 0, 0,
            6, 0, 5);
        x.set(12, 9);
        Check.with(x, set);
        return x.told(0);
    }

    private static void border(Check c, String letter, int n, int... set) {
        if (n > 0) {
            c.due(letter + ">" + (n - 1), holds(letter + ">" + (n - 1), set), 1);
            c.due(letter + "=" + (n - 1), holds(letter + "=" + (n - 1), set), 0);
            c.due(letter + "<" + (n - 1), holds(letter + "<" + (n - 1), set), 0);
        }
        c.due(letter + "<" + n, holds(letter + "<" + n, set), 0);
        c.due(letter + "=" + n, holds(letter + "=" + n, set), 1);
        c.due(letter + ">" + n, holds(letter + ">" + n, set), 0);
        if (n < 99) {
            c.due(letter + "<" + (n + 1), holds(letter + "<" + (n + 1), set), 1);
            c.due(letter + "=" + (n + 1), holds(letter + "=" + (n + 1), set), 0);
            c.due(letter + ">" + (n + 1), holds(letter + ">" + (n + 1), set), 0);
        }
    }

    private static void tests(Check c) {
        for (int n : new int[] {0, 1, 50, 98, 99}) {
            c.about("f FEAR of the THING there");
            border(c, "f", n, 0, 33, 5, n);
            c.about("h HUNGER");
            border(c, "h", n, 7, n);
            c.about("p PAID");
            border(c, "p", n, 6, n);
            c.about("w WEAR");
            border(c, "w", n, 8, n);
            c.about("l how much the LOADS differ");
            border(c, "l", n, 10, n, 11, 0);
            border(c, "l", n, 10, 0, 11, n);
            border(c, "l", 99 - n, 10, n, 11, 99);
            border(c, "l", 99 - n, 10, 99, 11, n);
            c.about("s both together");
            border(c, "s", n, 10, n, 11, 0);
            border(c, "s", n, 10, 0, 11, n);
        }
        c.about("s both together (99 at most)");
        border(c, "s", 98, 10, 49, 11, 49);
        border(c, "s", 99, 10, 49, 11, 50);
        border(c, "s", 99, 10, 50, 11, 50);
        border(c, "s", 99, 10, 1, 11, 99);
        border(c, "s", 99, 10, 99, 11, 99);
        c.about("a AT, k the KIND of the PLACE");
        border(c, "a", 9);
        border(c, "a", 0, 12, 0);
        border(c, "k", 6);
        border(c, "k", 0, 12, 8);
        c.about("a TEST's n may lie beyond what its letter may be");
        c.due("a<99", holds("a<99"), 1);
        c.due("k=99", holds("k=99"), 0);
        c.due("t>60", holds("t>60"), 0);
        c.about("f FEAR of the THING there: of that PLACE alone");
        c.due("the thing of place 0", holds("f=10", 12, 0, 5, 70), 1);
        c.due("the thing of place 9", holds("f=70", 12, 9, 5, 70), 1);
    }

    /** The half minute, as a law tests it, behind so many. */
    private static int halfMinute(int gone, int tested) {
        DonkeyBridge x = Check.road("ford 60", 0, 0, 0, 0, 0, 0, 0, 0, 0);
        for (int i = 0; i < gone / 60; i++) {
            x.set(12, 0);
            x.go(6);
        }
        Check.law(x, "ford " + gone % 60);
        x.set(12, 0);
        if (gone % 60 > 0) {
            x.go(6);
        }
        Check.law(x, "go 1 t=" + tested);
        return x.now(14) == gone ? x.told(0) : -99;
    }

    private static void time(Check c) {
        c.about("t the HALF MINUTE modulo 60");
        c.due("0", halfMinute(0, 0), 1);
        c.due("1", halfMinute(1, 1), 1);
        c.due("59", halfMinute(59, 59), 1);
        c.due("60 is 0", halfMinute(60, 0), 1);
        c.due("60 is not 60", halfMinute(60, 60), 0);
        c.due("61 is 1", halfMinute(61, 1), 1);
        c.due("119 is 59", halfMinute(119, 59), 1);
        c.due("120 is 0", halfMinute(120, 0), 1);
        c.due("1234 is 34", halfMinute(1234, 34), 1);
        DonkeyBridge x = State.LATE.make();
        Check.law(x, "go 1 t=39;go 2 t=99");
        c.due("9999 is 39", x.told(0), 1);
    }

    private static void joined(Check c) {
        c.about("E: T or T|E. T: F or F&T. F: !F, (E), or a TEST");
        c.due("& ahead of |, on the left", holds("a=9|a=9&a=1"), 1);
        c.due("& ahead of |, on the right", holds("a=1&a=9|a=9"), 1);
        c.due("( ) ahead of both, on the left", holds("(a=9|a=9)&a=1"), 0);
        c.due("( ) ahead of both, on the right", holds("a=1&(a=9|a=9)"), 0);
        c.due("! of the next alone, ahead of &", holds("!a=1&a=9"), 1);
        c.due("! of the next alone, ahead of |", holds("!a=9|a=9"), 1);
        c.due("! of all within ( )", holds("!(a=9|a=1)"), 0);
        c.due("!! is as it was", holds("!!a=9"), 1);
        c.due("!!! is not", holds("!!!a=9"), 0);
        c.due("!!!! is as it was", holds("!!!!a=9"), 1);
        c.due("none of five", holds("a=1|a=2|a=3|a=4|a=5"), 0);
        c.due("the last of five", holds("a=1|a=2|a=3|a=4|a=9"), 1);
        c.due("all of five", holds("a=9&a>1&a<10&k=6&f<99"), 1);
        c.due("all of five but the last", holds("a=9&a>1&a<10&k=6&f=99"), 0);
        c.due("all of five but the first", holds("a=8&a>1&a<10&k=6&f<99"), 0);
    }

    /** Whether a form of x, y and z holds, each of which is 1 or 0. */
    private static void form(Check c, String form, int due) {
        for (int so = 0; so < 8; so++) {
            String e = form.replace("x", (so & 1) != 0 ? "k=6" : "k=5").replace("y", (so & 2) != 0 ? "f=10" : "f<10")
                .replace("z", (so & 4) != 0 ? "h=20" : "h>20");
            c.due(form + " as " + e, holds(e), due >> so & 1);
        }
    }

    private static void forms(Check c) {
        c.about("E: T or T|E. T: F or F&T. F: !F, (E), or a TEST: each form, whatever its parts are");
        // bit 0 is due when none of x, y, z holds; bit 1 when x does, bit 2 when y, bit 3 when x and y, bit 4 when z ..
        int x = 0b10101010;
        int y = 0b11001100;
        int z = 0b11110000;
        int all = 0b11111111;
        form(c, "x", x);
        form(c, "!x", all ^ x);
        form(c, "(x)", x);
        form(c, "x&(y)", x & y);
        form(c, "x|(y)", x | y);
        form(c, "(x)&(y)", x & y);
        form(c, "(x)|(y)", x | y);
        form(c, "x&y|z", x & y | z);
        form(c, "x|y&z", x | y & z);
        form(c, "(x|y)&z", (x | y) & z);
        form(c, "x&(y|z)", x & (y | z));
        form(c, "x|(y&z)", x | y & z);
        form(c, "(x&y)|z", x & y | z);
        form(c, "x&y&z", x & y & z);
        form(c, "x|y|z", x | y | z);
        form(c, "x&(y&(z))", x & y & z);
        form(c, "x|(y|(z))", x | y | z);
        form(c, "x|(y|z&x)", x | y);
        form(c, "x|(y|(z&y))", x | y);
        form(c, "x&(y|(z&(x|y)))", x & (y | z));
        form(c, "x|(y&(z|(x&(y|z))))", x | y & z);
        form(c, "(((x|y)&z)|x)&y", ((x | y) & z | x) & y);
        form(c, "!x&y", ~x & y);
        form(c, "x&!y", x & ~y);
        form(c, "!x|y", all & ~x | y);
        form(c, "!(x&y)", all ^ (x & y));
        form(c, "!(x|y)&z", ~(x | y) & z);
        form(c, "!(x|!(y&z))", ~x & y & z);
        form(c, "!x&!y&!x", all & ~x & ~y);
        form(c, "x&!(y|z)|!x&(y&z)", x & ~(y | z) | ~x & y & z);
    }

    private static void left(Check c) {
        c.about("a LAW holds nothing of a TEXT that had a FAULT");
        String[] faulty = {"lead 99;hit 98;look 97;ford 96;x", "hit 99;lead 98;go 97 a<99;not 96 a<99;hurt 95 a<99;x",
            "go 99 a<99;not 98 a<99;hurt 97 a<99;x", "go 99 a<99|a<99|a<99&"};
        for (String text : faulty) {
            DonkeyBridge x = Check.road("", 0, 0, 0);
            for (int i = 0; i < 12; i++) {
                c.due("a fault", Check.law(x, text) <= -10 ? 1 : 0, 1);
            }
            int[] without = {0, 0, 0, 3, 5, 2, 9};
            for (int what = 0; what <= 6; what++) {
                c.due("no law yet, told " + what, x.told(what), without[what]);
            }
            c.due("a law", Check.law(x, "go 1 a=0;go 2 a=0&!a=1"), 0);
            without[0] = 3;
            for (int what = 0; what <= 6; what++) {
                c.due("told " + what, x.told(what), without[what]);
            }
            Check.law(x, text);
            c.due("a law of ten clauses", Check.law(x, TEN), 1);
            c.due("told 0", x.told(0), 10);
            c.due("told 3", x.told(3), 3);
        }
    }

    private static void told(Check c) {
        c.about("told: what 0 GO, 1 NOT, 2 HURT (as all is), 3 lead, 4 hit, 5 look, 6 ford. NONE");
        String law = "go 21 a=0;not 22 a=0;hurt 23 a=0;lead 24;hit 25;look 26;ford 27";
        DonkeyBridge x = Check.road(law, 0, 0, 0, 0, 0, 0);
        c.due("told -1", x.told(-1), -1);
        for (int what = 0; what <= 6; what++) {
            c.due("told " + what, x.told(what), 21 + what);
        }
        c.due("told 7", x.told(7), -1);
        c.about("told: HURT of any KIND of PLACE");
        for (int kind = 0; kind <= 6; kind++) {
            c.due("kind " + kind, Check.road(law, kind, 0, 0).told(2), 23);
        }
        c.about("told: STATE: of 0, 1, 2, if it is OVER");
        x.set(12, 1);
        c.due("at the last place", x.told(0), 0);
        x.set(12, 2);
        for (int what = 0; what <= 6; what++) {
            c.due("over, told " + what, x.told(what), what <= 2 ? -3 : 21 + what);
        }
        c.due("over, told -1", x.told(-1), -1);
        c.due("over, told 7", x.told(7), -1);
    }

    public static void main(String[] args) {
        Check c = new Check("LawEdgeTest");
        text(c);
        clauses(c);
        parts(c);
        within(c);
        signs(c);
        ends(c);
        newest(c);
        oneOfTen(c);
        together(c);
        tests(c);
        time(c);
        joined(c);
        forms(c);
        left(c);
        told(c);
        c.end();
    }
}
