/** Promises 28 and 29: image, undo. */
public final class ImageTest {
    /** All that an image takes and may be asked. */
    private static long[] all(DonkeyBridge x) {
        long[] all = new long[40];
        int n = 0;
        for (int what = 0; what <= 15; what++) {
            all[n++] = x.now(what);
        }
        for (int what = 3; what <= 6; what++) {
            all[n++] = x.told(what);
        }
        for (int what = 2; what <= 4; what++) {
            all[n++] = x.count(what);
        }
        for (int k = 0; k <= x.count(2); k++) {
            all[n++] = x.hand(k, 15);
        }
        all[n++] = x.off();
        all[n++] = x.string(0);
        int odds = x.wander(0);
        x.wander(odds);
        all[n++] = odds;
        return all;
    }

    private static void changeAll(DonkeyBridge x) {
        Check.law(x, "lead 50;hit 51;look 52;ford 53;go 9 a<99");
        for (int what = 0; what <= 11; what++) {
            x.set(what, 9);
        }
        x.set(12, 1);
        x.set(13, 0);
        x.go(5);
        x.wander(9);
        Check.acts(x, 7, 7, 7, 7, 7, 7);
        x.film(-1);
        x.film(3);
        x.film(3);
        x.beast(-1);
        x.beast(77);
        x.beast(66);
    }

    public static void main(String[] args) {
        Check c = new Check("ImageTest");
        DonkeyBridge x = new DonkeyBridge();
        c.due("none", x.undo(), -3);
        x.place(0, 0, 0);
        x.place(1, 0, 1);
        x.place(0, 0, 2);
        c.due("no law", Check.law(x, "lead"), -14);
        for (int what = 0; what <= 11; what++) {
            x.set(what, what < 9 ? 30 + what : 8 - what % 2);
        }
        x.go(6);
        x.set(13, 1);
        x.wander(4);
        Check.acts(x, 1, 4, 5);
        x.film(1);
        x.beast(4);
        x.beast(5);
        long[] before = all(x);
        c.due("image", x.image(), 1);
        c.dueRow("the image changes nothing", all(x), before);
        changeAll(x);
        x.feed(59);
        x.tape(0, 0, 1);
        x.item(0, 0, 5);
        x.place(6, 9, 5);
        x.part(3, 0, 1);
        c.due("undo", x.undo(), 1);
        c.dueRow("all is as the image", all(x), before);
        c.due("no law holds", x.told(3), 3);
        c.due("places stay", x.count(0), 4);
        c.due("laws stay", x.count(1), 1);
        c.due("the text stays", x.count(5), 1);
        c.due("tapes stay", x.read(0, 0), 5);
        c.due("the trace stays", x.count(6), 2);
        c.due("the text was a fault", x.law(), -10);
        // the image is its own: what is changed behind an undo does not come into it
        changeAll(x);
        c.due("undo again", x.undo(), 1);
        c.dueRow("all is as the image again", all(x), before);
        c.due("a law behind it", Check.law(x, "lead 7"), 2);
        c.due("image with a law", x.image(), 1);
        c.due("another law", Check.law(x, "lead 8"), 3);
        c.due("it holds", x.told(3), 8);
        x.set(12, 3);
        c.due("undo to the law", x.undo(), 1);
        c.due("the law holds", x.told(3), 7);
        c.due("a newer law", Check.law(x, "lead 9"), 4);
        c.due("it holds in turn", x.told(3), 9);
        x.set(12, 4);
        c.due("a newer image", x.image(), 4);
        x.set(12, 0);
        c.due("the newest image", x.undo(), 4);
        x = new DonkeyBridge();
        Check.law(x, "lead 7");
        x.image();
        Check.law(x, "lead 8");
        c.due("undo to the first law", x.undo(), 0);
        c.due("the first law holds", x.told(3), 7);
        c.end();
    }
}
