/** The boundaries of promises 1 to 3: a new object, anew, begin. */
public final class BeginningEdgesTest {
    private static final int NONE = Edge.NONE, OUTSIDE = Edge.OUTSIDE, NOT = Edge.NOT, FULL = Edge.FULL, NULL = Edge.NULL;
    private static final Edge edge = new Edge();

    private BeginningEdgesTest() {
    }

    public static void main(String[] args) {
        newIsEmpty();
        anewOfNothing();
        anewTellsAllNumbers();
        anewEmptiesAFullBeginning();
        anewHoldsNothing();
        anewUndoesNothing();
        anewHasNoImages();
        anewLeavesShelves();
        beginWithALetter();
        beginTwelve();
        beginAheadOfChanges();
        beginRefusedInOrder();
        edge.end("BeginningEdgesTest");
    }

    // ---- promise 1: "An empty beginning, no CHANGES." (Terms: "empty at first")

    private static void newIsEmpty() {
        PatchHouse x = new PatchHouse();
        for (int what : new int[] {0, 1, 3, 4}) {
            edge.answers("new: told(" + what + ")", x.told(what), 0);
        }
        edge.answers("new: two empty texts are alike", x.told(2), 1);
        for (int h = 0; h < 2; h++) {
            edge.answers("new: no letter", x.text(h, 0), NONE);
            edge.answers("new: no place of a history", x.history(h, 0, 0), Edge.UNKNOWN);
            edge.answers("new: no change", x.change(h, 0, 0), Edge.UNKNOWN);
            edge.answers("new: nothing held", x.house(h, 5), NONE);
            edge.answers("new: no clash", x.house(h, 6), NONE);
        }
        for (int s = 0; s < 4; s++) {
            edge.answers("new: a shelf is empty", x.shelved(s, 0), NULL);
        }
        edge.answers("new: two objects share nothing", new PatchHouse().begin('a') + new PatchHouse().begin('a'), 2);
    }

    // ---- promise 2

    private static void anewOfNothing() {
        PatchHouse x = new PatchHouse();
        edge.answers("anew of a new object", x.anew(), 0);
        edge.answers("anew again", x.anew(), 0);
        edge.same("anew of nothing", Sight.all(x), Sight.all(new PatchHouse()));
    }

    private static void anewTellsAllNumbers() {
        PatchHouse x = new PatchHouse();
        Edge.puts(x, 0, 16, 0);
        Edge.puts(x, 1, 7, 0);
        edge.answers("anew: 23 numbers", Edge.made(BeginningEdgesTest::twentyThree).anew(), 23);
        edge.answers("the last number", x.record(1, 0, 0, 'a'), 23);
        x.record(1, 0, 0, 'a');
        edge.answers("anew: 24 numbers, what was FULL not told", x.anew(), 24);
        edge.answers("numbers from 0", x.record(1, 0, 0, 'a'), 0);
        x.takeOff(1, 0);
        edge.answers("anew: there was one, though taken off", x.anew(), 1);
        x.record(0, 0, 0, 'a');
        x.undo();
        edge.answers("anew: there was one, though undone", x.anew(), 1);
    }

    private static void twentyThree(PatchHouse x) {
        Edge.puts(x, 0, 16, 0);
        Edge.puts(x, 1, 7, 0);
    }

    private static void anewEmptiesAFullBeginning() {
        PatchHouse x = Edge.begun("abcdefghijkl");
        edge.answers("no changes yet", x.anew(), 0);
        edge.answers("no letters", x.told(0), 0);
        edge.answers("no text", x.text(0, 0), NONE);
        for (int i = 1; i <= 12; i++) {
            edge.answers("begin again", x.begin('z'), i);
        }
        edge.answers("the 13th again", x.begin('z'), FULL);
        edge.reads(x, 1, "zzzzzzzzzzzz");
    }

    private static void anewHoldsNothing() {
        PatchHouse x = Edge.made(Edge::busy);
        edge.answers("house 0 holds", x.house(0, 5), 2);
        edge.answers("house 1 holds", x.house(1, 5), 0);
        x.anew();
        for (int h = 0; h < 2; h++) {
            edge.answers("anew: nothing held", x.house(h, 5), NONE);
            edge.answers("anew: no clash", x.house(h, 6), NONE);
            edge.answers("anew: no changes", x.house(h, 1), 0);
        }
    }

    private static void anewUndoesNothing() {
        PatchHouse x = Edge.made(Edge::busy);
        edge.answers("five to be undone", x.told(3), 5);
        x.anew();
        edge.answers("anew: none", x.told(3), 0);
        edge.answers("anew: undo", x.undo(), NOT);
        x.record(0, 0, 0, 'a');
        edge.answers("one behind it", x.undo(), 0);
        edge.answers("and no more", x.undo(), NOT);
    }

    private static void anewHasNoImages() {
        PatchHouse x = Edge.made(Edge::busy);
        x.anew();
        edge.answers("anew: image 0", x.goBack(0), NOT);
        edge.answers("anew: image 1", x.goBack(1), NOT);
        x.keep(0);
        edge.answers("kept behind anew", x.goBack(0), 1);
        edge.answers("the other was not", x.goBack(1), NOT);
    }

    private static void anewLeavesShelves() {
        PatchHouse x = Edge.made(Edge::longest);
        x.shelveText(0, 0);
        x.shelve(1, 0, 13);
        x.anew();
        edge.answers("anew: the last letter on a shelf", x.letter(0, 25), 'z');
        edge.answers("anew: the change on a shelf", x.shelved(1, 0), 15);
        edge.answers("anew: an empty shelf", x.empty(2), 0);
        edge.answers("anew: a text", x.empty(0), 2);
        edge.answers("anew: a change", x.empty(1), 1);
    }

    // ---- promise 3

    private static void beginWithALetter() {
        for (int letter : Edge.past(97, 122)) {
            edge.refuses("begin(" + letter + ")", x -> Edge.begin(x, "ab"), x -> x.begin(letter), OUTSIDE);
        }
        PatchHouse x = new PatchHouse();
        edge.answers("begin(97)", x.begin(97), 1);
        edge.answers("begin(122)", x.begin(122), 2);
        edge.reads(x, 0, "az");
        edge.reads(x, 1, "az");
    }

    private static void beginTwelve() {
        PatchHouse x = Edge.begun("abcdefghijk");
        edge.answers("11 letters", x.told(0), 11);
        edge.answers("the 12th", x.begin('l'), 12);
        edge.refuses("the 13th", y -> Edge.begin(y, "abcdefghijkl"), y -> y.begin('m'), FULL);
        edge.answers("the last letter", x.text(0, 11), 'l');
        edge.answers("none behind it", x.text(0, 12), NONE);
    }

    private static void beginAheadOfChanges() {
        Edge.Run one = x -> x.record(1, 0, 0, 'a');
        edge.refuses("begin behind a change", one, x -> x.begin('b'), NOT);
        edge.refuses("begin behind one undone", x -> {
            one.on(x);
            x.undo();
        }, x -> x.begin('b'), NOT);
        edge.refuses("begin behind one taken off", x -> {
            one.on(x);
            x.takeOff(1, 0);
        }, x -> x.begin('b'), NOT);
        edge.refuses("begin behind an image without changes", x -> {
            x.keep(1);
            one.on(x);
            x.goBack(1);
        }, x -> x.begin('b'), NOT);
        PatchHouse refused = new PatchHouse();
        refused.record(0, 1, 0, 0);
        edge.answers("begin behind a refused change", refused.begin('b'), 1);
        PatchHouse none = new PatchHouse();
        edge.answers("lots with nothing to take out", none.drift(1, 2), 0);
        edge.answers("begin behind lots that record nothing", none.begin('b'), 1);
        PatchHouse again = Edge.made(one);
        again.anew();
        edge.answers("begin behind anew", again.begin('b'), 1);
    }

    private static void beginRefusedInOrder() {
        Edge.Run full = x -> {
            Edge.begin(x, "abcdefghijkl");
            x.record(0, 1, 0, 0);
        };
        edge.refuses("OUTSIDE ahead of NOT, FULL", full, x -> x.begin(123), OUTSIDE);
        edge.refuses("NOT ahead of FULL", full, x -> x.begin(122), NOT);
        edge.refuses("OUTSIDE ahead of FULL", x -> Edge.begin(x, "abcdefghijkl"), x -> x.begin(96), OUTSIDE);
    }
}
