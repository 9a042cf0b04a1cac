/** States of an object in which calls are tried. Each is made anew, alike each time, by less than 240 calls. */
enum State {
    /** A new object. */
    NEW,
    /** Some of everything; an image of another state has been taken. */
    MIDWAY,
    /** As MIDWAY, but it is over. */
    OVER,
    /** All is full: places, laws, the text, the row, the film, the string. */
    FULL,
    /** The text holds 100 signs, which are a law of ten clauses; there is room for laws. */
    TEXT_FULL,
    /** 9999 half minutes are gone; it is not over. */
    LATE,
    /** 9999 half minutes are gone, and it is over. */
    LATE_OVER;

    static final String LONGEST_LAW = "go 1 a<99;go 1 a<99;go 1 a<99;go 1 a<99;go 1 a<99;"
        + "go 1 a<99;go 1 a<99;go 1 a<99;go 1 a<99;go 01 a<99";

    DonkeyBridge make() {
        switch (this) {
            case NEW: return new DonkeyBridge();
            case MIDWAY: return midway();
            case OVER: return Check.with(midway(), 12, 4);
            case FULL: return full();
            case TEXT_FULL: return textFull();
            case LATE: return Check.with(late(), 12, 1);
            default: return late();
        }
    }

    boolean isOver() {
        return this == NEW || this == OVER || this == LATE_OVER;
    }

    static void feed(DonkeyBridge x, String text) {
        for (int i = 0; i < text.length(); i++) {
            x.feed(text.charAt(i));
        }
    }

    private static void tapes(DonkeyBridge x, int... at) {
        x.tape(0, 0, at.length);
        for (int i = 0; i < at.length; i++) {
            x.item(0, i, at[i]);
        }
        for (int sort = 1; sort <= 4; sort++) {
            x.tape(sort, sort, 3);
            x.item(sort, 1, 40 + sort);
        }
    }

    private static DonkeyBridge midway() {
        DonkeyBridge x = Check.road("lead 7", 0, 1, 0, 1, 2, 1, 4, 3, 2, 6, 5, 3);
        Check.with(x, 0, 11, 1, 22, 2, 33, 6, 44, 9, 5, 12, 2, 13, 1);
        Check.acts(x, 5, 1);
        x.film(2);
        x.beast(9);
        x.wander(7);
        x.image();
        Check.law(x, "go 40 a<99;hurt 6 l>4;not 3 h>9;lead 8;hit 13;look 4;ford 3");
        Check.with(x, 0, 30, 1, 21, 2, 25, 3, 17, 6, 6, 7, 25, 8, 9, 9, 3, 10, 14, 11, 8, 12, 1, 13, 0);
        // 37 - 42 stands; 37 - 34 + 12 goes; 37 - 50 + 13 stands; round; over
        Check.acts(x, 0, 4, 7, 6, 5);
        x.film(-1);
        for (int seen : new int[] {0, 1, 0, 1}) {
            x.film(seen);
        }
        x.beast(-1);
        x.beast(50);
        x.beast(20);
        x.beast(20);
        x.wander(3);
        tapes(x, 1, 2, 2, 3, 3);
        x.part(3, 2, 9);
        feed(x, "go 1 a");
        return x;
    }

    private static DonkeyBridge full() {
        DonkeyBridge x = new DonkeyBridge();
        for (int i = 0; i < 10; i++) {
            x.place(i % 7, i % 4, i % 6);
        }
        for (int i = 0; i < 5; i++) {
            Check.law(x, "hit " + i);
        }
        Check.law(x, "go 9 a<99");
        Check.with(x, 1, 99, 12, 1, 6, 30);
        x.image();
        Check.with(x, 1, 7, 12, 0, 6, 5);
        // 9 - 10 stands, and fears 2 less: then it goes; place 1: 9 - 14, 9 - 10, 9 - 6 goes; and so on
        Check.acts(x, 0, 0, 0, 0, 0, 0, 0, 0, 0, 0, 0, 0);
        for (int seen : new int[] {0, 1, 0, 0, 1, 0, 1, 0, 0, 0, 0, 1}) {
            x.film(seen);
        }
        for (int fear : new int[] {5, 3, 4, 6}) {
            x.beast(fear);
        }
        x.wander(10);
        tapes(x, 0, 1, 1, 1, 2);
        x.part(6, 2, 1);
        feed(x, LONGEST_LAW);
        return x;
    }

    private static DonkeyBridge textFull() {
        DonkeyBridge x = Check.road("lead 7", 0, 0, 0, 2, 0, 1);
        x.image();
        feed(x, LONGEST_LAW);
        return x;
    }

    private static DonkeyBridge late() {
        DonkeyBridge x = Check.road("ford 99", 0, 0, 0, 0, 0, 1, 0, 0, 2, 0, 0, 3, 0, 0, 4, 0, 0, 5, 0, 0, 0, 0, 0, 1, 0, 0, 2,
            0, 0, 3);
        x.image();
        for (int i = 0; i < 101; i++) {
            if (x.now(12) == 10) {
                x.set(12, 0);
            }
            x.go(6);
        }
        x.set(12, 10);
        Check.acts(x, 0, 6);
        return x;
    }
}
