/** What a test says of the answers it gets: each that is not the one due, and how many. */
final class Check {
    private final String name;
    private int wrong;
    private int looked;

    Check(String name) {
        this.name = name;
    }

    void due(String call, long got, long want) {
        looked++;
        if (got != want) {
            wrong++;
            System.out.println(name + ": " + call + " answered " + got + ", due is " + want);
        }
    }

    /** The answers of one call told with 0, 1, 2 and so on. */
    void dueRow(String call, long[] got, long... want) {
        due(call + ", how many", got.length, want.length);
        for (int i = 0; i < Math.min(got.length, want.length); i++) {
            due(call + "[" + i + "]", got[i], want[i]);
        }
    }

    void end() {
        System.out.println(name + ": " + looked + " answers, " + wrong + " not as due");
        if (wrong != 0 || looked == 0) {
            System.exit(1);
        }
    }

    /** Feeds a text and makes it a law. */
    static int law(DonkeyBridge x, String text) {
        for (int i = 0; i < text.length(); i++) {
            x.feed(text.charAt(i));
        }
        return x.law();
    }

    static void acts(DonkeyBridge x, int... acts) {
        x.row(-1);
        for (int act : acts) {
            x.row(act);
        }
    }
}
