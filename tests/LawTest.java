/** Promises 6 to 8: feed, law, told. */
public final class LawTest {
    private static void signs(Check c) {
        DonkeyBridge x = new DonkeyBridge();
        c.due("sign -1", x.feed(-1), -2);
        c.due("sign 128", x.feed(128), -2);
        for (int i = 1; i <= 100; i++) {
            c.due("sign " + i, x.feed(i == 1 ? 0 : 127), i);
        }
        c.due("sign 101", x.feed(32), -4);
        c.due("bad ahead of full", x.feed(128), -2);
        c.due("a hundred", x.count(5), 100);
        c.due("law", x.law(), -10);
        c.due("empty behind a fault", x.count(5), 0);
        c.due("the first sign again", x.feed(103), 1);
    }

    private static void fault(Check c, String text, int place) {
        DonkeyBridge x = new DonkeyBridge();
        c.due("fault of " + text, Check.law(x, text), -10 - place);
        c.due("no law of " + text, x.count(1), 0);
        c.due("text of " + text, x.count(5), 0);
    }

    private static void faults(Check c) {
        fault(c, "", 0);
        fault(c, " go 1 f=1", 0);
        fault(c, "x", 0);
        fault(c, "g", 1);
        fault(c, "gp", 1);
        fault(c, "no", 2);
        fault(c, "nox 1 f=1", 2);
        fault(c, "h", 1);
        fault(c, "ha", 1);
        fault(c, "hux", 2);
        fault(c, "hix", 2);
        fault(c, "hur 1 f=1", 3);
        fault(c, "lo", 2);
        fault(c, "load 1", 2);
        fault(c, "led 1", 2);
        fault(c, "fort 1", 3);
        fault(c, "look", 4);
        fault(c, "looks 1", 4);
        fault(c, "look  1", 5);
        fault(c, "look ", 5);
        fault(c, "look x", 5);
        fault(c, "look 1x", 6);
        fault(c, "look 123", 7);
        fault(c, "look 12 ", 7);
        fault(c, "look 1 f=1", 6);
        fault(c, "look 1;", 7);
        fault(c, "look 1; hit 2", 7);
        fault(c, "go", 2);
        fault(c, "go 1", 4);
        fault(c, "go 1;hit 2", 4);
        fault(c, "go 123", 5);
        fault(c, "go 1 ", 5);
        fault(c, "go 1  f=1", 5);
        fault(c, "go 1 z=1", 5);
        fault(c, "go 1 F=1", 5);
        fault(c, "go 1 f", 6);
        fault(c, "go 1 f!1", 6);
        fault(c, "go 1 f==1", 7);
        fault(c, "go 1 f=", 7);
        fault(c, "go 1 f=-1", 7);
        fault(c, "go 1 f=123", 9);
        fault(c, "go 1 f=1 ", 8);
        fault(c, "go 1 f=1)", 8);
        fault(c, "go 1 f=1&", 9);
        fault(c, "go 1 f=1&&f=1", 9);
        fault(c, "go 1 f=1|", 9);
        fault(c, "go 1 f=1|&f=1", 9);
        fault(c, "go 1 f=1;", 9);
        fault(c, "go 1 (f=1", 9);
        fault(c, "go 1 (f=1;", 9);
        fault(c, "go 1 ()", 6);
        fault(c, "go 1 (f=1))", 10);
        fault(c, "go 1 !", 6);
        fault(c, "go 1 f=1(", 8);
        fault(c, "go 1 !!!!!f=1", 9);
        fault(c, "go 1 (((((f=1)))))", 9);
        fault(c, "go 1 !(!(!f=1))", 9);
        fault(c, "go 1 !(!(f=1&(f=2)))", 13);
        fault(c, "hit 1;hit 1;hit 1;hit 1;hit 1;hit 1;hit 1;hit 1;hit 1;hit 1;", 59);
        fault(c, "hit 1;hit 1;hit 1;hit 1;hit 1;hit 1;hit 1;hit 1;hit 1;hit 1;hit 1", 59);
        fault(c, "hit 1;hit 1;xit 1", 12);
    }

    private static void good(Check c, String text) {
        c.due("law of " + text, Check.law(new DonkeyBridge(), text), 0);
    }

    private static void laws(Check c) {
        good(c, "go 1 !!!!f=1");
        good(c, "go 1 ((((f=1))))");
        good(c, "go 1 !(!(f=1))&!(!(f=2))|((((f=3))))");
        good(c, "go 0 f<0|h=0|p>0|w<00|l=09|s>9|a<99|k=1|t>0");
        good(c, "hit 1;hit 1;hit 1;hit 1;hit 1;hit 1;hit 1;hit 1;hit 1;hit 1");
        good(c, "hit 1;go 1 f=1;look 01");
        DonkeyBridge x = new DonkeyBridge();
        x.place(0, 0, 0);
        c.due("a fault far behind", Check.law(x, "lead 9;go 7 a<99;go 8 f=10|f=11;x"), -10 - 32);
        c.due("a law behind a fault", Check.law(x, "go 1 a<99"), 0);
        c.due("nothing of the fault is in it", x.told(0) * 100 + x.told(3), 103);
        for (int i = 0; i < 4; i++) {
            c.due("a long fault", Check.law(x, "go 1 f=1|f=1|f=1|f=1|f=1|f=1|f=1|f=1|f=1|f=1|f=1|f=1|f=1|f=1;x"), -10 - 61);
        }
        String ten = "go 1 a=0&f=10;go 2 a=1|f=11;go 3 a=0;hit 4;go 5 a=0;hit 6;go 7 a=0;hit 8;go 9 a=0;go 50 a=0&!f=11";
        c.due("a law of ten clauses", Check.law(x, ten), 1);
        c.due("all ten hold", x.told(0) * 100 + x.told(4), 7508);
        x = new DonkeyBridge();
        for (int i = 0; i < 6; i++) {
            c.due("law " + i, Check.law(x, "lead " + (20 + i)), i);
            c.due("it holds " + i, x.told(3), 20 + i);
            c.due("a fault " + i, Check.law(x, "lead;"), i < 5 ? -14 : -4);
            c.due("the one before holds " + i, x.told(3), 20 + i);
        }
        c.due("the text stays when there are 6", x.count(5), 5);
        c.due("six laws", x.count(1), 6);
        c.due("full again", x.law(), -4);
        c.due("the text grows on", x.feed(49), 6);
    }

    private static DonkeyBridge under(String law) {
        DonkeyBridge x = new DonkeyBridge();
        x.place(3, 0, 5);
        x.place(2, 0, 4);
        Check.law(x, law);
        return x;
    }

    private static void toldOf(Check c) {
        DonkeyBridge x = under("go 1 f=10;go 2 f=10;go 4 f=11;not 8 f=10;not 16 f=9;hurt 32 f=10;hurt 3 f=10");
        c.due("go together", x.told(0), 3);
        c.due("not together", x.told(1), 8);
        c.due("hurt together", x.told(2), 35);
        c.due("lead without", x.told(3), 3);
        c.due("hit without", x.told(4), 5);
        c.due("look without", x.told(5), 2);
        c.due("ford without", x.told(6), 9);
        c.due("told -1", x.told(-1), -1);
        c.due("told 7", x.told(7), -1);
        c.due("a law with them", Check.law(x, "lead 1;lead 2;hit 3;hit 04;look 7;look 6;ford 9;ford 0"), 1);
        c.due("the last lead", x.told(3), 2);
        c.due("the last hit", x.told(4), 4);
        c.due("the last look", x.told(5), 6);
        c.due("the last ford", x.told(6), 0);
        c.due("no go", x.told(0), 0);
        x.set(12, 2);
        c.due("go when over", x.told(0), -3);
        c.due("not when over", x.told(1), -3);
        c.due("hurt when over", x.told(2), -3);
        c.due("lead when over", x.told(3), 2);
        c.due("ford when over", x.told(6), 0);
        c.due("none ahead of state", x.told(7), -1);
    }

    /** Whether e holds, with fear 5, hunger 20, paid 7, wear 3, loads 50 and 90, at 1, kind 2, half minute 61. */
    private static int holds(String e) {
        DonkeyBridge x = under("ford 61");
        x.go(6);
        Check.law(x, "go 1 " + e);
        x.set(4, 5);
        x.set(6, 7);
        x.set(8, 3);
        x.set(10, 50);
        x.set(11, 90);
        return x.told(0);
    }

    private static void terms(Check c) {
        String[] right = {"f=5", "f<6", "f>4", "h=20", "p=7", "w=3", "l=40", "s=99", "a=1", "k=2", "t=1", "f=05",
            "!f=4", "(f=5)", "!(f=4)", "!!f=5", "f=4|f=5", "f=5|f=4", "f=5&h=20", "f=5|f=4&f=3", "f=3&f=4|f=5",
            "!f=4&f=5", "!f=5|f=5", "(f=4|f=5)&h=20", "f=1|f=2|f=5", "f=5&h=20&p=7", "!(f=4|h=1)&!(f=5&h=1)"};
        String[] wrong = {"f=4", "f<5", "f>5", "h<20", "p>7", "w=4", "l<40", "l>40", "s<99", "s>99", "a=0", "k=3",
            "t=61", "t=0", "!f=5", "!(f=5)", "!!f=4", "f=4|f=6", "f=5&h=21", "f=4&h=20", "(f=5|f=4)&f=3",
            "f=3&(f=4|f=5)", "!f=5&f=5", "f=1|f=2|f=3", "f=5&h=20&p=8", "!f=5&f=4", "!(f=4|h=20)", "!(f=5|h=1)"};
        for (String e : right) {
            c.due(e, holds(e), 1);
        }
        for (String e : wrong) {
            c.due(e, holds(e), 0);
        }
        // all the brackets that may be: 11 bits open at once
        c.due("deep", holds("f=1|f=5&(f=1|f=5&(f=1|f=5&(f=1|f=5&(f=1|f=5&h=20))))"), 1);
        c.due("deep, not", holds("f=1|f=5&(f=1|f=5&(f=1|f=5&(f=1|f=5&(f=1|f=5&h=21))))"), 0);
    }

    public static void main(String[] args) {
        Check c = new Check("LawTest");
        signs(c);
        faults(c);
        laws(c);
        toldOf(c);
        terms(c);
        c.end();
    }
}
