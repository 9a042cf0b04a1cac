import java.util.Map;

/** What a test says of the answers it gets: each that is not the one due, and how many. */
final class Check {
    private final String name;
    private String sentence = "";
    private int lookedBefore;
    private int wrong;
    private int looked;

    Check(String name) {
        this.name = name;
    }

    void due(String call, long got, long want) {
        looked++;
        if (got != want) {
            wrong++;
            System.out.println(name + ": " + sentence + call + " answered " + got + ", due is " + want);
        }
    }

    /** What follows looks at this sentence of the document; the one ahead of it must have been looked at. */
    void about(String words) {
        if (!sentence.isEmpty() && looked == lookedBefore) {
            due("how often it was looked at", 0, 1);
        }
        sentence = "\"" + words + "\": ";
        lookedBefore = looked;
    }

    /** The answers of one call told with 0, 1, 2 and so on. */
    void dueRow(String call, long[] got, long... want) {
        due(call + ", how many", got.length, want.length);
        for (int i = 0; i < Math.min(got.length, want.length); i++) {
            due(call + "[" + i + "]", got[i], want[i]);
        }
    }

    /** What was looked at, each answer by its name: all as due. */
    void dueAll(String call, Map<String, Long> got, Map<String, Long> want) {
        due(call + ", how many", got.size(), want.size());
        for (Map.Entry<String, Long> w : want.entrySet()) {
            due(call + ": " + w.getKey(), got.getOrDefault(w.getKey(), -77L), w.getValue());
        }
    }

    void end() {
        System.out.println(name + ": " + looked + " answers, " + wrong + " not as due");
        if (wrong != 0 || looked == 0) {
            System.exit(1);
        }
    }

    /** Feeds a text and makes it a law. */
    static int law(DonkeyBridge x, String text) {
        for (int i = 0; i < text.length(); i++) {
            x.feed(text.charAt(i));
        }
        return x.law();
    }

    /** A road under a law (none, if that is empty): of each place its kind, v and thing. */
    static DonkeyBridge road(String law, int... places) {
        DonkeyBridge x = new DonkeyBridge();
        for (int i = 0; i + 2 < places.length; i += 3) {
            x.place(places[i], places[i + 1], places[i + 2]);
        }
        if (!law.isEmpty()) {
            law(x, law);
        }
        return x;
    }

    /** Sets several numbers: what, n, what, n and so on. */
    static DonkeyBridge with(DonkeyBridge x, int... set) {
        for (int i = 0; i + 1 < set.length; i += 2) {
            x.set(set[i], set[i + 1]);
        }
        return x;
    }

    static void acts(DonkeyBridge x, int... acts) {
        x.row(-1);
        for (int act : acts) {
            x.row(act);
        }
    }
}
