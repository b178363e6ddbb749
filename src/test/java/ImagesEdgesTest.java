/** The boundaries of promises 23 and 24: keep, goBack. */
public final class ImagesEdgesTest {
    private static final int NONE = Edge.NONE, UNKNOWN = Edge.UNKNOWN, NOT = Edge.NOT, FULL = Edge.FULL;
    private static final Edge edge = new Edge();

    private ImagesEdgesTest() {
    }

    public static void main(String[] args) {
        keepAnImage();
        keepLeavesNothingToBeUndone();
        keepOverWhatWasKept();
        keepEachForItself();
        keepWhatIsHeld();
        goBackToAnImage();
        goBackToWhatWasNotKept();
        goBackBehindAnew();
        goBackLeavesNothingToBeUndone();
        goBackAgainAndAgain();
        goBackToNothingAndToFull();
        goBackLeavesNumbersShelvesBeginning();
        edge.end("ImagesEdgesTest");
    }

    // ---- promise 23

    private static void keepAnImage() {
        for (int i : Edge.past(0, 1)) {
            edge.refuses("keep(" + i + ")", Edge::busy, x -> x.keep(i), UNKNOWN);
        }
        edge.answers("keep(0)", new PatchHouse().keep(0), 1);
        edge.answers("keep(1)", new PatchHouse().keep(1), 1);
    }

    private static void keepLeavesNothingToBeUndone() {
        PatchHouse x = Edge.made(Edge::busy);
        String ahead = Sight.houses(x);
        x.keep(0);
        edge.answers("none", x.told(3), 0);
        edge.answers("undo", x.undo(), NOT);
        edge.same("nothing else changes", Sight.houses(x), ahead);
        x.record(0, 0, 0, 'a');
        edge.answers("one behind it", x.told(3), 1);
        edge.answers("is undone", x.undo(), 0);
        edge.same("as it was kept", Sight.houses(x), ahead);
        PatchHouse eight = new PatchHouse();
        Edge.puts(eight, 0, 10, 0);
        eight.keep(1);
        edge.answers("of eight none", eight.undo(), NOT);
        Edge.puts(eight, 1, 10, 0);
        edge.answers("eight again", eight.told(3), 8);
    }

    private static void keepOverWhatWasKept() {
        PatchHouse x = new PatchHouse();
        x.keep(0);
        x.record(0, 0, 0, 'a');
        x.keep(0);
        x.record(0, 0, 0, 'b');
        x.goBack(0);
        edge.stands(x, 0, "0+0");
    }

    private static void keepEachForItself() {
        PatchHouse x = new PatchHouse();
        x.record(0, 0, 0, 'a');
        x.keep(0);
        x.record(1, 0, 0, 'b');
        x.keep(1);
        x.takeOff(0, 0);
        x.goBack(0);
        edge.stands(x, 0, "0+0");
        edge.stands(x, 1, "");
        x.goBack(1);
        edge.stands(x, 0, "0+0");
        edge.stands(x, 1, "1+0");
    }

    private static void keepWhatIsHeld() {
        PatchHouse x = Edge.made(Edge::busy);
        x.goBack(0);
        edge.answers("house 0 held then", x.house(0, 5), 2);
        edge.answers("its clash", x.house(0, 6), 0);
        edge.answers("house 1 held none yet", x.house(1, 5), NONE);
        edge.answers("no clash", x.house(1, 6), NONE);
        x.goBack(1);
        edge.answers("house 1 held then", x.house(1, 5), 0);
        edge.answers("its clash", x.house(1, 6), 2);
    }

    // ---- promise 24

    private static void goBackToAnImage() {
        for (int i : Edge.past(0, 1)) {
            edge.refuses("goBack(" + i + ")", Edge::busy, x -> x.goBack(i), UNKNOWN);
            edge.refuses("UNKNOWN ahead of NOT", x -> x.record(0, 0, 0, 'a'), x -> x.goBack(i), UNKNOWN);
        }
        edge.answers("goBack(0)", Edge.made(Edge::busy).goBack(0), 1);
        edge.answers("goBack(1)", Edge.made(Edge::busy).goBack(1), 1);
    }

    private static void goBackToWhatWasNotKept() {
        Edge.Run one = x -> {
            x.record(0, 0, 0, 'a');
            x.keep(0);
            x.record(0, 0, 0, 'b');
        };
        edge.refuses("nothing was kept", x -> x.record(0, 0, 0, 'a'), x -> x.goBack(0), NOT);
        edge.refuses("the other one was kept", one, x -> x.goBack(1), NOT);
        edge.answers("the one that was kept", Edge.made(one).goBack(0), 1);
        edge.refuses("a refused keep keeps nothing", x -> {
            x.record(0, 0, 0, 'a');
            x.keep(2);
            x.keep(-1);
        }, x -> x.goBack(1), NOT);
    }

    private static void goBackBehindAnew() {
        Edge.Run anew = x -> {
            Edge.busy(x);
            x.anew();
            x.record(0, 0, 0, 'a');
        };
        edge.refuses("anew came behind image 0", anew, x -> x.goBack(0), NOT);
        edge.refuses("anew came behind image 1", anew, x -> x.goBack(1), NOT);
        PatchHouse x = Edge.made(anew);
        x.keep(1);
        edge.answers("kept behind anew", x.goBack(1), 1);
        edge.answers("not the other", x.goBack(0), NOT);
        edge.stands(x, 0, "0+0");
    }

    private static void goBackLeavesNothingToBeUndone() {
        PatchHouse x = Edge.made(Edge::busy);
        x.goBack(1);
        edge.answers("none", x.told(3), 0);
        edge.answers("undo", x.undo(), NOT);
        String ahead = Sight.houses(x);
        x.record(0, 0, 0, 'a');
        edge.answers("one behind it", x.undo(), 0);
        edge.same("as it was kept", Sight.houses(x), ahead);
    }

    private static void goBackAgainAndAgain() {
        PatchHouse x = Edge.made(Edge::busy);
        x.goBack(0);
        String kept = Sight.houses(x);
        for (int k = 0; k < 3; k++) {
            x.record(0, 0, 0, 'a');
            x.takeOff(1, 1);
            x.turn(0, 0);
            edge.answers("an image is not used up", x.goBack(0), 1);
            edge.same("as it was kept", Sight.houses(x), kept);
        }
    }

    private static void goBackToNothingAndToFull() {
        PatchHouse x = new PatchHouse();
        x.keep(0);
        Edge.puts(x, 0, 16, 0);
        x.keep(1);
        x.goBack(0);
        edge.answers("no changes", x.house(0, 1), 0);
        edge.reads(x, 0, "");
        x.goBack(1);
        edge.answers("16 changes", x.house(0, 1), 16);
        edge.answers("no room", x.record(0, 0, 0, 'a'), FULL);
        edge.answers("the first", x.history(0, 0, 0), 0);
        edge.answers("the last", x.history(0, 15, 0), 15);
    }

    private static void goBackLeavesNumbersShelvesBeginning() {
        PatchHouse x = new PatchHouse();
        x.keep(0);
        x.begin('a');
        Edge.puts(x, 0, 12, 0);
        Edge.puts(x, 1, 12, 0);
        x.shelveText(0, 0);
        x.shelve(1, 0, 11);
        x.goBack(0);
        edge.answers("24 numbers all the same", x.told(1), 24);
        edge.answers("none left", x.record(0, 0, 0, 'a'), FULL);
        edge.answers("the beginning is not kept: it stays", x.told(0), 1);
        edge.reads(x, 0, "a");
        edge.answers("a text on a shelf", x.letter(0, 12), 'a');
        edge.answers("a change on a shelf", x.shelved(1, 0), 11);
    }
}
