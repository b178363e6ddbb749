import java.math.BigInteger;

/** The boundaries of promises 8 and 9: drift (with BY LOTS), undo. */
public final class DriftEdgesTest {
    private static final int NONE = Edge.NONE, OUTSIDE = Edge.OUTSIDE, NOT = Edge.NOT;
    private static final Edge edge = new Edge();

    private DriftEdgesTest() {
    }

    public static void main(String[] args) {
        driftTimes();
        driftASeed();
        driftDoesNotWrap();
        driftOfNoLetters();
        driftToTwentyFourNumbers();
        driftToSixteenChanges();
        driftToTwentyFourLetters();
        driftIsUndoneAsOne();
        driftOfNothingIsUndone();
        undoOfNothing();
        undoEight();
        undoTellsHowManyMore();
        undoGivesBackEachOfEight();
        undoNotOfWhatIsRefused();
        undoNotOfWhatIsAsked();
        undoUsesNoNumberAgain();
        undoLeavesBeginningAndShelves();
        edge.end("DriftEdgesTest");
    }

    /** The lots once more, by whole numbers of any length; only texts and sizes are looked at. */
    private static final class Lots {
        private static final BigInteger FACTOR = BigInteger.valueOf(16807), DIVISOR = BigInteger.valueOf(2147483647);
        private final StringBuilder[] texts = {new StringBuilder(), new StringBuilder()};
        private final int[] sizes = new int[2];
        private int numbers, recorded;
        private BigInteger lot;

        Lots(PatchHouse x) {
            for (int h = 0; h < 2; h++) {
                texts[h].append(Sight.text(x, h));
                sizes[h] = x.house(h, 1);
            }
            numbers = x.told(1);
        }

        private int next(int bound) {
            lot = lot.multiply(FACTOR).mod(DIVISOR);
            return lot.mod(BigInteger.valueOf(bound)).intValue();
        }

        Lots drift(int n, int seed) {
            lot = BigInteger.valueOf(seed);
            for (int k = 0; k < n; k++) {
                int house = next(2);
                if (next(3) < 2) {
                    put(house, next(texts[house].length() + 1), (char) (97 + next(26)));
                } else if (texts[house].length() > 0) {
                    take(house, next(texts[house].length()));
                }
            }
            return this;
        }

        private boolean counts(int house) {
            if (numbers == 24 || sizes[house] == 16) {
                return false;
            }
            numbers++;
            sizes[house]++;
            recorded++;
            return true;
        }

        private void put(int house, int place, char letter) {
            if (texts[house].length() < 24 && counts(house)) {
                texts[house].insert(place, letter);
            }
        }

        private void take(int house, int place) {
            if (counts(house)) {
                texts[house].deleteCharAt(place);
            }
        }
    }

    private static void drifts(String name, Edge.Run ahead, int n, int seed) {
        PatchHouse x = Edge.made(ahead);
        Lots lots = new Lots(x).drift(n, seed);
        edge.answers(name + ": drift(" + n + ", " + seed + ")", x.drift(n, seed), lots.recorded);
        for (int h = 0; h < 2; h++) {
            edge.reads(x, h, lots.texts[h].toString());
            edge.answers(name + ": changes", x.house(h, 1), lots.sizes[h]);
        }
        edge.answers(name + ": numbers", x.told(1), lots.numbers);
    }

    // ---- promise 8

    private static void driftTimes() {
        for (int n : Edge.past(1, 20)) {
            edge.refuses("drift(" + n + ", 1)", Edge::busy, x -> x.drift(n, 1), OUTSIDE);
        }
        for (int seed = 1; seed <= 40; seed++) {
            drifts("once", Edge::busy, 1, seed);
            drifts("twenty times", Edge::busy, 20, seed);
        }
        edge.refuses("n and seed", Edge::busy, x -> x.drift(21, 1000000), OUTSIDE);
    }

    private static void driftASeed() {
        for (int seed : new int[] {0, -1, 1000000, 1000001, Integer.MIN_VALUE, Integer.MAX_VALUE}) {
            edge.refuses("drift(1, " + seed + ")", Edge::busy, x -> x.drift(1, seed), OUTSIDE);
            edge.refuses("drift(20, " + seed + ")", Edge::busy, x -> x.drift(20, seed), OUTSIDE);
        }
        drifts("the least seed", Edge::busy, 20, 1);
        drifts("the most seed", Edge::busy, 20, 999999);
    }

    /** 999999 times 16807, and each lot times 16807 after that, is far more than an int holds. */
    private static void driftDoesNotWrap() {
        for (int seed = 999960; seed <= 999999; seed++) {
            drifts("large lots", x -> Edge.begin(x, "abcdefghijkl"), 20, seed);
        }
    }

    private static void driftOfNoLetters() {
        edge.answers("seed 2 takes out, of no letters", new PatchHouse().drift(1, 2), 0);
        for (int seed = 1; seed <= 60; seed++) {
            drifts("no letters", x -> { }, 20, seed);
            drifts("one letter", x -> Edge.begin(x, "a"), 20, seed);
        }
    }

    private static void driftToTwentyFourNumbers() {
        Edge.Run all = x -> {
            Edge.puts(x, 0, 12, 0);
            Edge.puts(x, 1, 12, 0);
        };
        edge.answers("no numbers left", Edge.made(all).drift(20, 5), 0);
        Edge.Run butOne = x -> {
            Edge.puts(x, 0, 12, 0);
            Edge.puts(x, 1, 11, 0);
        };
        edge.answers("one number left", Edge.made(butOne).drift(20, 5), 1);
        for (int seed = 1; seed <= 20; seed++) {
            drifts("no numbers left", all, 20, seed);
            drifts("one number left", butOne, 20, seed);
        }
    }

    private static void driftToSixteenChanges() {
        for (int seed = 1; seed <= 20; seed++) {
            drifts("16 changes", x -> Edge.puts(x, 0, 16, 0), 20, seed);
            drifts("15 changes", x -> Edge.puts(x, 1, 15, 0), 20, seed);
        }
    }

    private static void driftToTwentyFourLetters() {
        for (int seed = 1; seed <= 20; seed++) {
            drifts("24 letters", x -> {
                Edge.begin(x, "abcdefghijkl");
                Edge.puts(x, 0, 12, 0);
            }, 20, seed);
            drifts("23 letters", x -> {
                Edge.begin(x, "abcdefghijkl");
                Edge.puts(x, 1, 11, 0);
            }, 20, seed);
            drifts("26 letters", Edge::longest, 20, seed);
        }
    }

    private static void driftIsUndoneAsOne() {
        PatchHouse x = Edge.made(Edge::busy);
        String ahead = Sight.houses(x);
        edge.answers("drift", x.drift(12, 3) > 1 ? 1 : 0, 1);
        edge.answers("one more to be undone", x.told(3), 6);
        edge.answers("undone", x.undo(), 5);
        edge.same("all lots at once", Sight.houses(x), ahead);
    }

    private static void driftOfNothingIsUndone() {
        PatchHouse x = new PatchHouse();
        edge.answers("nothing recorded", x.drift(1, 2), 0);
        edge.answers("drift() counts", x.told(3), 1);
        edge.answers("undone", x.undo(), 0);
    }

    // ---- promise 9

    private static void undoOfNothing() {
        edge.refuses("undo of nothing", x -> { }, x -> x.undo(), NOT);
        edge.refuses("behind begin", x -> Edge.begin(x, "ab"), x -> x.undo(), NOT);
        edge.refuses("behind anew", x -> {
            Edge.busy(x);
            x.anew();
        }, x -> x.undo(), NOT);
        edge.refuses("behind keep", x -> {
            Edge.busy(x);
            x.keep(0);
        }, x -> x.undo(), NOT);
        edge.refuses("behind goBack", x -> {
            Edge.busy(x);
            x.goBack(0);
        }, x -> x.undo(), NOT);
        edge.refuses("all undone", x -> {
            x.record(0, 0, 0, 'a');
            x.undo();
        }, x -> x.undo(), NOT);
    }

    private static void undoEight() {
        PatchHouse x = new PatchHouse();
        for (int k = 1; k <= 7; k++) {
            x.record(0, 0, 0, 'a');
            edge.answers("up to 8", x.told(3), k);
        }
        x.record(0, 0, 0, 'a');
        edge.answers("8", x.told(3), 8);
        x.record(0, 0, 0, 'a');
        edge.answers("8 at most", x.told(3), 8);
        for (int k = 7; k >= 0; k--) {
            edge.answers("undo", x.undo(), k);
        }
        edge.answers("the oldest is lost: it is not undone", x.house(0, 1), 1);
        edge.answers("no more", x.undo(), NOT);
        PatchHouse eight = new PatchHouse();
        Edge.puts(eight, 1, 8, 0);
        for (int k = 7; k >= 0; k--) {
            edge.answers("undo", eight.undo(), k);
        }
        edge.answers("of eight none is lost", eight.house(1, 1), 0);
    }

    private static void undoTellsHowManyMore() {
        PatchHouse x = new PatchHouse();
        x.record(0, 0, 0, 'a');
        edge.answers("the only one", x.undo(), 0);
        edge.answers("an undo is not undone", x.told(3), 0);
        Edge.puts(x, 0, 3, 0);
        edge.answers("the last of three", x.undo(), 2);
        x.record(0, 0, 0, 'b');
        edge.answers("another in its place", x.told(3), 3);
        edge.answers("that first", x.undo(), 2);
        edge.stands(x, 0, "1+0 2+0");
    }

    /** Thirty calls, of every kind that can be undone, with undo between, so that the eight go round and round. */
    private static void undoGivesBackEachOfEight() {
        PatchHouse x = Edge.begun("abcdefghijkl");
        String[] ahead = new String[60];
        int count = 0;
        for (int k = 0; k < 30; k++) {
            String now = Sight.houses(x);
            if (done(x, k) >= 0) {
                ahead[count++] = now;
            }
            if (k % 7 == 6) {
                x.undo();
                edge.same("undone at " + k, Sight.houses(x), ahead[--count]);
            }
        }
        edge.answers("eight are kept", x.told(3), 8);
        edge.answers("of more", count > 16 ? 1 : 0, 1);
        for (int k = 7; k >= 0; k--) {
            edge.answers("undo", x.undo(), k);
            edge.same("as ahead of it", Sight.houses(x), ahead[--count]);
        }
        edge.answers("no more", x.undo(), NOT);
    }

    private static int done(PatchHouse x, int k) {
        int house = k / 6 % 2;
        switch (k % 6) {
            case 0:
                return x.record(house, 0, k % 12, 'a' + k % 26);
            case 1:
                return x.drift(1, 700 + k);
            case 2:
                return x.turn(house, 0);
            case 3:
                x.shelve(0, house, 0);
                return x.oppose(0, 1 - house);
            case 4:
                return x.pull(1 - house, x.history(house, 0, 0));
            default:
                return x.takeOff(house, x.history(house, x.house(house, 1) - 1, 0));
        }
    }

    private static void undoNotOfWhatIsRefused() {
        edge.refuses("record refused", Edge::busy, x -> x.record(0, 0, 99, 'a'), OUTSIDE);
        edge.refuses("takeOff refused", Edge::busy, x -> x.takeOff(0, 2), Edge.UNKNOWN);
        edge.refuses("turn refused", x -> Edge.chain(x, 0, 4), x -> x.turn(0, 0), NOT);
        edge.refuses("pull refused", Edge::busy, x -> x.pull(0, 1), NOT);
        edge.refuses("oppose refused", Edge::busy, x -> x.oppose(2, 0), Edge.NULL);
        edge.refuses("drift refused", Edge::busy, x -> x.drift(0, 1), OUTSIDE);
    }

    private static void undoNotOfWhatIsAsked() {
        PatchHouse x = Edge.made(Edge::busy);
        Sight.all(x);
        x.shelve(2, 0, 0);
        x.shelveText(2, 0);
        x.empty(2);
        x.round(0, 0, 0, 0);
        edge.answers("what is asked or shelved is not undone", x.told(3), 5);
    }

    private static void undoUsesNoNumberAgain() {
        PatchHouse x = new PatchHouse();
        for (int k = 0; k < 24; k++) {
            edge.answers("the next number", x.record(0, 0, 0, 'a'), k);
            x.undo();
        }
        edge.answers("24 numbers", x.told(1), 24);
        edge.answers("no changes", x.house(0, 1), 0);
        edge.answers("none left", x.record(0, 0, 0, 'a'), Edge.FULL);
    }

    private static void undoLeavesBeginningAndShelves() {
        PatchHouse x = Edge.begun("ab");
        x.record(0, 0, 0, 'c');
        x.shelve(0, 0, 0);
        x.shelveText(1, 0);
        edge.answers("undo", x.undo(), 0);
        edge.answers("the beginning", x.told(0), 2);
        edge.answers("a change on a shelf", x.shelved(0, 3), 'c');
        edge.answers("a text on a shelf", x.letter(1, 2), 'b');
        edge.answers("as before", x.text(0, 2), NONE);
    }
}
