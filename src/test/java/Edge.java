/**
 * What the tests of the boundaries have in common. A run of calls is given as a thing that can be
 * made again on a new object, so that two objects can be compared: one with a refused call behind
 * the run, one without.
 */
final class Edge {
    static final int NONE = -1, UNKNOWN = -1000000001, OUTSIDE = -1000000002, NOT = -1000000003,
        FULL = -1000000004, NULL = -1000000011, CAST = -1000000012;

    interface Run {
        void on(PatchHouse x);
    }

    interface Call {
        int on(PatchHouse x);
    }

    private final Due due = new Due();

    void end(String test) {
        due.end(test);
    }

    void answers(String call, int got, int want) {
        due.is(call, got, want);
    }

    void same(String what, String got, String want) {
        due.is(what + ": '" + got + "', due '" + want + "'", got.equals(want));
    }

    void reads(PatchHouse x, int house, String want) {
        same("text of house " + house, Sight.text(x, house), want);
    }

    void stands(PatchHouse x, int house, String want) {
        same("history of house " + house, Sight.history(x, house), want);
    }

    /** The call answers `want`, and all that is told, undone or gone back to behind it is as if it had not been. */
    void refuses(String name, Run ahead, Call call, int want) {
        due.is(name, call.on(made(ahead)), want);
        Run behind = x -> {
            ahead.on(x);
            call.on(x);
        };
        int most = made(ahead).told(3);
        for (int k = 0; k <= most; k++) {
            same(name + ", refused, then " + k + " undone", undone(behind, k), undone(ahead, k));
        }
        for (int i = 0; i < 2; i++) {
            same(name + ", refused, then back to image " + i, backTo(behind, i), backTo(ahead, i));
        }
    }

    private static String undone(Run run, int times) {
        PatchHouse x = made(run);
        StringBuilder all = new StringBuilder();
        for (int k = 0; k < times; k++) {
            all.append(x.undo()).append(' ');
        }
        return all.append(Sight.all(x)).toString();
    }

    private static String backTo(Run run, int image) {
        PatchHouse x = made(run);
        return x.goBack(image) + " " + Sight.all(x);
    }

    static PatchHouse made(Run run) {
        PatchHouse x = new PatchHouse();
        run.on(x);
        return x;
    }

    static PatchHouse begun(String letters) {
        return made(x -> begin(x, letters));
    }

    static void begin(PatchHouse x, String letters) {
        for (int i = 0; i < letters.length(); i++) {
            x.begin(letters.charAt(i));
        }
    }

    static void puts(PatchHouse x, int house, int times, int place) {
        for (int i = 0; i < times; i++) {
            x.record(house, 0, place, 'z');
        }
    }

    /** A letter put in ahead of all and taken out again, over and over: each change needs all ahead of it. */
    static void chain(PatchHouse x, int house, int changes) {
        for (int i = 0; i < changes; i++) {
            x.record(house, i % 2, 0, 'z');
        }
    }

    /** 26 letters, the most that a text can have, and 14 changes in house 0: what was taken out is taken off. */
    static void longest(PatchHouse x) {
        begin(x, "abcdefghijkl");
        x.record(0, 1, 0, 0);
        x.record(0, 1, 0, 0);
        puts(x, 0, 14, 10);
        x.takeOff(0, 1);
        x.takeOff(0, 0);
    }

    /** Something of every kind: both houses hold a change, two images, shelves of each kind, five to be undone. */
    static void busy(PatchHouse x) {
        begin(x, "abcdef");
        x.record(0, 0, 0, 'x');
        x.record(0, 0, 7, 'y');
        x.pull(1, 1);
        x.record(1, 0, 0, 'q');
        x.pull(0, 2);
        x.keep(0);
        x.record(1, 1, 3, 0);
        x.pull(1, 0);
        x.keep(1);
        x.record(0, 1, 4, 0);
        x.record(0, 0, 7, 'w');
        x.record(1, 0, 7, 'v');
        x.turn(0, 0);
        x.shelve(0, 0, 1);
        x.takeOff(0, 5);
        x.shelveText(1, 1);
        x.shelve(3, 1, 0);
    }

    /**
     * Numbers out of low .. high: those just past it, the ends of int, and what would be in it again
     * if only some bits were looked at. (high must be less than low and 32.)
     */
    static int[] past(int low, int high) {
        return new int[] {low - 1, high + 1, low - 32, low + 32, low + 64, low + 256, low + 65536,
            Integer.MIN_VALUE, Integer.MIN_VALUE + low, Integer.MAX_VALUE};
    }

    static int[] below(int low) {
        return new int[] {low - 1, low - 2, low - 32, low - 65536, Integer.MIN_VALUE};
    }
}
