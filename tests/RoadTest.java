/** Promises 1 to 5: a new object, place, of, set, now. */
public final class RoadTest {
    private static final int LOW = Integer.MIN_VALUE, HIGH = Integer.MAX_VALUE;

    private static long[] all(DonkeyBridge x) {
        long[] all = new long[16];
        for (int what = 0; what < all.length; what++) {
            all[what] = x.now(what);
        }
        return all;
    }

    private static void newObject(Check c) {
        DonkeyBridge x = new DonkeyBridge();
        c.dueRow("new: now", all(x), 10, 10, 10, 10, 10, 10, 0, 20, 0, 0, 0, 0, 0, 0, 0, 60);
        for (int what = 0; what <= 6; what++) {
            c.due("new: count " + what, x.count(what), 0);
        }
        c.due("new: undo", x.undo(), -3);
        c.due("new: told lead", x.told(3), 3);
        c.due("new: trace", x.trace(0), -1);
        c.due("new: wander", x.wander(4), 0);
        for (int tape = 0; tape <= 5; tape++) {
            c.due("new: item of " + tape, x.item(tape, 0, 1), -11);
        }
        c.due("new: it is over", x.would(0), -5);
    }

    private static void places(Check c) {
        DonkeyBridge x = new DonkeyBridge();
        c.due("kind -1", x.place(-1, 0, 0), -1);
        c.due("kind 7", x.place(7, 0, 0), -1);
        c.due("thing -1", x.place(0, 0, -1), -1);
        c.due("thing 6", x.place(0, 0, 6), -1);
        c.due("v -1", x.place(0, -1, 0), -2);
        c.due("v 10", x.place(0, 10, 0), -2);
        c.due("kind ahead of v", x.place(7, 10, 0), -1);
        c.due("thing ahead of v", x.place(0, 10, 6), -1);
        c.due("far off", x.place(LOW, HIGH, LOW), -1);
        c.due("none came", x.count(0), 0);
        for (int i = 0; i < 10; i++) {
            c.due("place " + i, x.place(i % 7, 9 - i, i % 6), i);
        }
        c.due("full", x.place(0, 0, 0), -4);
        c.due("bad ahead of full", x.place(0, 10, 0), -2);
        c.due("none ahead of full", x.place(0, 0, 6), -1);
        c.due("ten stand", x.count(0), 10);
        for (int i = 0; i < 10; i++) {
            c.due("kind of " + i, x.of(i, 0), i % 7);
            c.due("v of " + i, x.of(i, 1), 9 - i);
            c.due("thing of " + i, x.of(i, 2), i % 6);
        }
        c.due("of place -1", x.of(-1, 0), -1);
        c.due("of place 10", x.of(10, 0), -1);
        c.due("of what 3", x.of(0, 3), -1);
        c.due("of what -1", x.of(0, -1), -1);
        c.due("of far", x.of(LOW, HIGH), -1);
        c.due("of a place that has not come", new DonkeyBridge().of(0, 0), -1);
    }

    private static void numbers(Check c) {
        DonkeyBridge x = new DonkeyBridge();
        x.place(0, 0, 0);
        x.place(0, 0, 0);
        int[] most = {99, 99, 99, 99, 99, 99, 99, 99, 99, 9, 99, 99, 2, 1};
        int[] first = {10, 10, 10, 10, 10, 10, 0, 20, 0, 0, 0, 0, 0, 0};
        for (int what = 0; what < most.length; what++) {
            c.due("set too much " + what, x.set(what, most[what] + 1), -2);
            c.due("set too little " + what, x.set(what, -1), -2);
            c.due("set far " + what, x.set(what, HIGH), -2);
            c.due("set most " + what, x.set(what, most[what]), first[what]);
            c.due("now most " + what, x.now(what), most[what]);
            c.due("set least " + what, x.set(what, 0), most[what]);
            c.due("now least " + what, x.now(what), 0);
        }
        c.due("set 14", x.set(14, 0), -1);
        c.due("set 15", x.set(15, 0), -1);
        c.due("set -1", x.set(-1, 0), -1);
        c.due("none ahead of bad", x.set(14, 100), -1);
        c.due("now -1", x.now(-1), -1);
        c.due("now 16", x.now(16), -1);
        c.due("now far", x.now(LOW), -1);
        for (int thing = 0; thing <= 5; thing++) {
            x.set(thing, thing + 1);
        }
        x.set(6, 50);
        c.due("learnt is all fears and paid", x.now(15), 21 + 50);
        x.set(7, 9);
        x.set(8, 9);
        c.due("learnt is no more than that", x.now(15), 71);
        c.due("at may be the end", x.set(12, 2), 0);
        c.due("then it is over", x.drive(0), -100003);
        c.due("a further place", x.place(0, 0, 3), 2);
        c.due("then it is not", x.drive(0), -4);
    }

    public static void main(String[] args) {
        Check c = new Check("RoadTest");
        newObject(c);
        places(c);
        numbers(c);
        c.end();
    }
}
