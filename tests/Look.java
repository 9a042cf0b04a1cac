import java.util.LinkedHashMap;
import java.util.Map;

/**
 * Looks at all that an object holds, by less than 270 calls, of which the last change it: for one look only. Each
 * answer has a name: what is asked of the object, of what "undo" leaves of it, and of the law that its text is.
 */
final class Look {
    private static final int[] TOLD_BY_HAND = {15, 6, 7, 9, 10, 12, 14};

    private final DonkeyBridge x;
    private final Map<String, Long> seen = new LinkedHashMap<>();

    private Look(DonkeyBridge x) {
        this.x = x;
    }

    static Map<String, Long> atAll(DonkeyBridge x) {
        Look look = new Look(x);
        look.atNumbers();
        look.atPlaces();
        look.atRow();
        look.atTapes();
        look.atImage();
        look.atText();
        return look.seen;
    }

    private void add(String name, long answer) {
        seen.put(name, answer);
    }

    private void atNumbers() {
        for (int what = 0; what <= 15; what++) {
            add("now " + what, x.now(what));
        }
        for (int what = 0; what <= 6; what++) {
            add("told " + what, x.told(what));
            add("count " + what, x.count(what));
        }
    }

    private void atPlaces() {
        for (int place = 0; place < x.count(0); place++) {
            for (int what = 0; what <= 2; what++) {
                add("of " + place + " " + what, x.of(place, what));
            }
        }
        for (int i = 0; i <= 12; i++) {
            add("trace " + i, x.trace(i));
        }
    }

    private void atRow() {
        int acts = x.count(2);
        for (int n = 0; n <= acts; n++) {
            for (int what : TOLD_BY_HAND) {
                add("hand " + n + " " + what, x.hand(n, what));
            }
        }
        add("off", x.off());
        add("string 0", x.string(0));
        add("string 1", x.string(1));
    }

    private void atTapes() {
        add("judge", x.judge(0, 0));
        for (int tape = 0; tape <= 5; tape++) {
            for (int i = 0; i <= 5; i++) {
                add("tape " + tape + " " + i, x.read(tape, i));
            }
            add("tape " + tape + " written", x.item(tape, 0, 1L << 40 | 0x18080));
            add("tape " + tape + " cut", x.read(tape, 0));
        }
    }

    /** Also the odds, which an image takes. */
    private void atImage() {
        add("wander", x.wander(5));
        add("undo", x.undo());
        for (int what = 0; what <= 15; what++) {
            add("undo now " + what, x.now(what));
        }
        for (int what = 2; what <= 6; what++) {
            add("undo told " + what, x.told(what));
        }
        for (int what = 0; what <= 5; what++) {
            add("undo count " + what, x.count(what));
        }
        add("undo hand", x.hand(x.count(2), 15));
        add("undo off", x.off());
        add("undo string", x.string(0));
        add("undo wander", x.wander(5));
    }

    private void atText() {
        add("text =", x.feed('='));
        add("text 1", x.feed('1'));
        add("text law", x.law());
        for (int what = 0; what <= 6; what++) {
            add("text told " + what, x.told(what));
        }
        add("text count 1", x.count(1));
        add("text count 5", x.count(5));
    }
}
