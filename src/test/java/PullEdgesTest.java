/** The boundaries of promise 7 and of PULLED in the terms. */
public final class PullEdgesTest {
    private static final int NONE = Edge.NONE, UNKNOWN = Edge.UNKNOWN, NOT = Edge.NOT, FULL = Edge.FULL;
    private static final Edge edge = new Edge();

    private PullEdgesTest() {
    }

    public static void main(String[] args) {
        pullToAHouse();
        pullAChange();
        pullWhatTheHouseHas();
        pullWhatCannotComeToTheFront();
        pullOwnThatCannotComeToTheFront();
        pullToNothing();
        pullSixteenAtOnce();
        pullSixteenChanges();
        pullTwentyFourLetters();
        pullTwentyFourLettersByTheWay();
        pullToTheLongest();
        pullRefusedInOrder();
        fullAheadOfHeld();
        heldPutInBesidePutIn();
        heldTakenOutBesideTakenOut();
        neverHeldPutInAndTakenOut();
        heldByANeed();
        heldByTheFirstOfSeveral();
        heldTheLatest();
        heldIsUndone();
        heldLeavesTheOrder();
        pulledLeavesANewOrder();
        pulledPastWhatCameAhead();
        edge.end("PullEdgesTest");
    }

    private static void pullToAHouse() {
        for (int h : Edge.past(0, 1)) {
            edge.refuses("pull, house " + h, Edge::busy, x -> x.pull(h, 6), UNKNOWN);
        }
        edge.answers("pull, house 0", Edge.made(Edge::busy).pull(0, 3), 0);
        edge.answers("pull, house 1", Edge.made(Edge::busy).pull(1, 4), 0);
    }

    private static void pullAChange() {
        for (int change : Edge.past(0, 23)) {
            edge.refuses("pull, change " + change, Edge::busy, x -> x.pull(1, change), UNKNOWN);
        }
        edge.refuses("the next number, not given yet", Edge::busy, x -> x.pull(0, 7), UNKNOWN);
        edge.refuses("what the house alone has", Edge::busy, x -> x.pull(0, 0), UNKNOWN);
        edge.refuses("what is taken off", Edge::busy, x -> x.pull(1, 5), UNKNOWN);
        edge.refuses("nothing to pull", x -> Edge.begin(x, "a"), x -> x.pull(0, 0), UNKNOWN);
        PatchHouse x = Edge.begun("ab");
        Edge.puts(x, 0, 12, 0);
        Edge.puts(x, 1, 12, 2);
        edge.answers("change 23", x.pull(0, 23), 1);
        edge.answers("change 0", x.pull(1, 0), 1);
    }

    private static void pullWhatTheHouseHas() {
        edge.refuses("what both have, to house 0", Edge::busy, x -> x.pull(0, 1), NOT);
        edge.refuses("what both have, to house 1", Edge::busy, x -> x.pull(1, 1), NOT);
        edge.refuses("what came as a need", x -> {
            Edge.chain(x, 0, 2);
            x.pull(1, 1);
        }, x -> x.pull(1, 0), NOT);
        PatchHouse x = Edge.made(Edge::busy);
        x.takeOff(0, 1);
        edge.answers("what it has no more", x.pull(0, 1), 1);
    }

    /** House 1 takes out a letter and pulls what is put in there: in its history that needs what is taken out. */
    private static void crossed(PatchHouse x) {
        Edge.begin(x, "ab");
        x.record(1, 1, 1, 0);
        x.record(0, 0, 2, 'w');
        x.pull(1, 1);
    }

    private static void pullWhatCannotComeToTheFront() {
        edge.refuses("the other one's", PullEdgesTest::crossed, x -> x.pull(0, 0), NOT);
        edge.refuses("though what is asked for is far away", x -> {
            crossed(x);
            x.record(1, 0, 0, 'q');
        }, x -> x.pull(0, 2), NOT);
        PatchHouse x = Edge.made(PullEdgesTest::crossed);
        x.takeOff(1, 1);
        edge.answers("when that is taken off, it can be", x.pull(0, 0), 1);
        edge.reads(x, 0, "aw");
    }

    private static void pullOwnThatCannotComeToTheFront() {
        Edge.Run run = x -> {
            crossed(x);
            x.record(0, 0, 0, 'q');
        };
        edge.refuses("the house's own", run, x -> x.pull(1, 2), NOT);
        PatchHouse x = Edge.made(run);
        x.takeOff(1, 1);
        edge.answers("when that is taken off, it can be", x.pull(1, 2), 1);
    }

    private static void pullToNothing() {
        PatchHouse x = new PatchHouse();
        x.record(1, 0, 0, 'a');
        edge.answers("the first change to an empty house", x.pull(0, 0), 1);
        edge.stands(x, 0, "0+0");
        edge.answers("the letter comes along", x.history(0, 0, 3), 'a');
        edge.answers("alike", x.told(2), 1);
        PatchHouse y = Edge.begun("a");
        y.record(0, 1, 0, 0);
        edge.answers("the only letter is taken out", y.pull(1, 0), 1);
        edge.reads(y, 1, "");
    }

    private static void pullSixteenAtOnce() {
        PatchHouse x = new PatchHouse();
        Edge.chain(x, 1, 16);
        edge.answers("the 16th with its 15 needs", x.pull(0, 15), 16);
        edge.same("both are the same", Sight.history(x, 0), Sight.history(x, 1));
        PatchHouse y = new PatchHouse();
        Edge.chain(y, 1, 16);
        edge.answers("the first alone", y.pull(0, 0), 1);
        edge.answers("the 16th with the 14 that lack", y.pull(0, 15), 15);
        edge.same("both are the same", Sight.history(y, 0), Sight.history(y, 1));
    }

    private static void pullSixteenChanges() {
        Edge.Run beside = x -> {
            Edge.begin(x, "abcdef");
            Edge.chain(x, 1, 16);
            x.record(0, 0, 6, 'w');
        };
        edge.refuses("1 and 16", beside, x -> x.pull(0, 15), FULL);
        PatchHouse x = Edge.made(beside);
        edge.answers("1 and 15", x.pull(0, 14), 15);
        edge.answers("16 changes", x.house(0, 1), 16);
        edge.answers("16 and 1", x.pull(0, 15), FULL);
        Edge.Run sixteen = y -> {
            Edge.begin(y, "ab");
            Edge.puts(y, 0, 16, 0);
            y.record(1, 1, 1, 0);
        };
        edge.refuses("16 and 1 that takes out", sixteen, y -> y.pull(0, 16), FULL);
        PatchHouse y = Edge.made(sixteen);
        y.takeOff(0, 0);
        edge.answers("15 and 1 that takes out", y.pull(0, 16), 1);
        edge.answers("16 changes", y.house(0, 1), 16);
    }

    private static void pullTwentyFourLetters() {
        Edge.Run twentyThree = x -> {
            Edge.begin(x, "abcdefghijkl");
            Edge.puts(x, 0, 11, 12);
            x.record(1, 0, 0, 'x');
            x.record(1, 0, 6, 'y');
        };
        Edge.Run twentyFour = x -> {
            twentyThree.on(x);
            x.pull(0, 11);
        };
        edge.answers("the 24th letter", Edge.made(twentyThree).pull(0, 11), 1);
        edge.answers("24 letters", Edge.made(twentyFour).house(0, 0), 24);
        edge.refuses("the 25th letter", twentyFour, x -> x.pull(0, 12), FULL);
        PatchHouse x = Edge.made(twentyFour);
        x.record(1, 1, 3, 0);
        edge.answers("taken out of 24", x.pull(0, 13), 1);
        edge.answers("so there is room for one", x.pull(0, 12), 1);
        edge.answers("24 letters", x.house(0, 0), 24);
    }

    /** Two put in, one taken out, which needs both: two more by the way. */
    private static void upAndDown(PatchHouse x, int puts) {
        Edge.begin(x, "abcdefghijkl");
        Edge.puts(x, 0, puts, 12);
        x.record(1, 0, 0, 'x');
        x.record(1, 0, 0, 'y');
        x.record(1, 1, 0, 0);
    }

    private static void pullTwentyFourLettersByTheWay() {
        edge.refuses("23, then 24, 25, 24", x -> upAndDown(x, 11), x -> x.pull(0, 13), FULL);
        PatchHouse x = Edge.made(y -> upAndDown(y, 10));
        edge.answers("22, then 23, 24, 23", x.pull(0, 12), 3);
        edge.reads(x, 0, "xabcdefghijkl" + "zzzzzzzzzz");
        PatchHouse first = Edge.made(y -> upAndDown(y, 11));
        edge.answers("the first of them alone", first.pull(0, 11), 1);
    }

    private static void pullToTheLongest() {
        Edge.Run twentySix = x -> {
            Edge.longest(x);
            x.record(1, 1, 5, 0);
            x.record(1, 0, 11, 'w');
        };
        edge.refuses("26, then 25", twentySix, x -> x.pull(0, 16), FULL);
        edge.refuses("26, then 27", twentySix, x -> x.pull(0, 17), FULL);
        Edge.Run twentyFive = x -> {
            twentySix.on(x);
            x.takeOff(0, 15);
        };
        edge.refuses("25, then 26", twentyFive, x -> x.pull(0, 17), FULL);
        PatchHouse x = Edge.made(twentyFive);
        edge.answers("25, then 24", x.pull(0, 16), 1);
        edge.reads(x, 0, "abcdeghijkl" + "zzzzzzzzzzzzz");
    }

    private static void pullRefusedInOrder() {
        Edge.Run sixteen = x -> {
            crossed(x);
            Edge.puts(x, 0, 15, 0);
        };
        edge.refuses("UNKNOWN (house) ahead of NOT", Edge::busy, x -> x.pull(2, 1), UNKNOWN);
        edge.refuses("UNKNOWN (the other one has it not) ahead of NOT (the house has it)", sixteen, x -> x.pull(0, 5), UNKNOWN);
        edge.refuses("NOT (the house has it) ahead of FULL", sixteen, x -> x.pull(0, 1), NOT);
        edge.refuses("NOT (can't be brought to the front) ahead of FULL", sixteen, x -> x.pull(0, 0), NOT);
        edge.refuses("UNKNOWN ahead of FULL", sixteen, x -> x.pull(0, 17), UNKNOWN);
    }

    private static void fullAheadOfHeld() {
        Edge.Run sixteen = x -> {
            Edge.puts(x, 0, 16, 0);
            x.record(1, 0, 0, 'a');
        };
        edge.refuses("16 and 1 that clashes", sixteen, x -> x.pull(0, 16), FULL);
        PatchHouse x = Edge.made(sixteen);
        x.takeOff(0, 3);
        edge.answers("15 and 1 that clashes", x.pull(0, 16), 0);
        Edge.Run letters = y -> {
            Edge.begin(y, "abcdefghijkl");
            Edge.puts(y, 0, 12, 12);
            y.record(1, 0, 12, 'a');
        };
        edge.refuses("24 letters and 1 that clashes", letters, y -> y.pull(0, 12), FULL);
        PatchHouse y = Edge.made(letters);
        y.undo();
        y.record(1, 0, 12, 'a');
        y.takeOff(0, 11);
        edge.answers("23 letters and 1 that clashes", y.pull(0, 13), 0);
    }

    private static PatchHouse against(int ownSort, int sort, int place) {
        PatchHouse x = Edge.begun("abcdefgh");
        x.record(0, ownSort, 4, 'w');
        x.record(1, sort, place, 'x');
        return x;
    }

    private static void heldPutInBesidePutIn() {
        String[] want = {"abcxdwefgh", null, "abcdwexfgh"};
        for (int k = 0; k < 3; k++) {
            PatchHouse x = against(0, 0, 3 + k);
            edge.answers("put in at 4, put in at " + (3 + k), x.pull(0, 1), want[k] == null ? 0 : 1);
            edge.reads(x, 0, want[k] == null ? "abcdwefgh" : want[k]);
            edge.answers("held", x.house(0, 5), want[k] == null ? 1 : NONE);
            edge.answers("clash", x.house(0, 6), want[k] == null ? 0 : NONE);
        }
    }

    private static void heldTakenOutBesideTakenOut() {
        String[] want = {"abdfgh", null, null, null, "abcdfh"};
        for (int k = 0; k < 5; k++) {
            PatchHouse x = against(1, 1, 2 + k);
            edge.answers("taken out at 4, taken out at " + (2 + k), x.pull(0, 1), want[k] == null ? 0 : 1);
            edge.reads(x, 0, want[k] == null ? "abcdfgh" : want[k]);
            edge.answers("clash", x.house(0, 6), want[k] == null ? 0 : NONE);
        }
    }

    private static void neverHeldPutInAndTakenOut() {
        String[] taken = {"abdwefgh", "abcwefgh", "abcdwfgh", "abcdwegh"};
        String[] put = {"abxcdfgh", "abcxdfgh", "abcdxfgh", "abcdxfgh", "abcdfxgh"};
        for (int k = 0; k < taken.length; k++) {
            PatchHouse x = against(0, 1, 2 + k);
            edge.answers("put in at 4, taken out at " + (2 + k), x.pull(0, 1), 1);
            edge.reads(x, 0, taken[k]);
        }
        for (int k = 0; k < put.length; k++) {
            PatchHouse x = against(1, 0, 2 + k);
            edge.answers("taken out at 4, put in at " + (2 + k), x.pull(0, 1), 1);
            edge.reads(x, 0, put[k]);
        }
    }

    private static void heldByANeed() {
        PatchHouse x = Edge.begun("ab");
        x.record(0, 0, 0, 'x');
        Edge.chain(x, 1, 4);
        edge.answers("what it needs clashes", x.pull(0, 4), 0);
        edge.answers("held is what was asked for", x.house(0, 5), 4);
        edge.answers("with what its need clashes", x.house(0, 6), 0);
        edge.stands(x, 0, "0+0");
        PatchHouse last = Edge.begun("abcd");
        last.record(1, 0, 4, 'y');
        last.record(1, 1, 3, 0);
        last.record(0, 1, 3, 0);
        edge.answers("its need alone can come", last.pull(0, 0), 1);
        last.undo();
        edge.answers("the last of those that come clashes", last.pull(0, 1), 0);
        edge.answers("so none comes", last.house(0, 1), 1);
    }

    private static void heldByTheFirstOfSeveral() {
        PatchHouse x = Edge.begun("abc");
        x.record(0, 0, 3, 'u');
        x.record(0, 1, 2, 0);
        x.record(0, 1, 1, 0);
        x.record(1, 1, 1, 0);
        edge.answers("held", x.pull(0, 3), 0);
        edge.answers("the first that it can't go past", x.house(0, 6), 1);
    }

    private static void heldTheLatest() {
        PatchHouse x = Edge.begun("abcdef");
        x.record(0, 1, 1, 0);
        x.record(0, 1, 3, 0);
        x.record(1, 1, 1, 0);
        x.record(1, 1, 3, 0);
        edge.answers("the first is held", x.pull(0, 2), 0);
        edge.answers("held", x.house(0, 5), 2);
        edge.answers("clash", x.house(0, 6), 0);
        edge.answers("the next is held", x.pull(0, 3), 0);
        edge.answers("the latest", x.house(0, 5), 3);
        edge.answers("its clash", x.house(0, 6), 1);
        edge.answers("the other house holds none", x.house(1, 5), NONE);
        edge.answers("until it does", x.pull(1, 0), 0);
        edge.answers("then both", x.house(1, 5), 0);
        edge.answers("each its own", x.house(0, 5), 3);
    }

    private static void heldIsUndone() {
        PatchHouse x = Edge.begun("ab");
        x.record(0, 0, 0, 'x');
        x.record(1, 0, 0, 'y');
        x.keep(0);
        edge.answers("held", x.pull(0, 1), 0);
        edge.answers("the same again", x.pull(0, 1), 0);
        edge.answers("both can be undone", x.told(3), 2);
        edge.answers("one", x.undo(), 1);
        edge.answers("still held by the first", x.house(0, 5), 1);
        edge.answers("the other", x.undo(), 0);
        edge.answers("held no more", x.house(0, 5), NONE);
        edge.answers("no clash", x.house(0, 6), NONE);
    }

    private static void besides(PatchHouse x) {
        Edge.begin(x, "abcdef");
        x.record(0, 0, 0, 'x');
        x.record(0, 0, 7, 'y');
        x.pull(1, 1);
    }

    private static void heldLeavesTheOrder() {
        PatchHouse x = Edge.made(PullEdgesTest::besides);
        x.record(1, 0, 0, 'q');
        edge.answers("held", x.pull(0, 2), 0);
        edge.stands(x, 0, "0+0 1+7");
        edge.stands(x, 1, "1+6 2+0");
    }

    private static void pulledLeavesANewOrder() {
        PatchHouse x = Edge.made(PullEdgesTest::besides);
        x.record(1, 0, 2, 'q');
        edge.answers("pulled", x.pull(0, 2), 1);
        edge.stands(x, 0, "1+6 0+0 2+3");
        edge.stands(x, 1, "1+6 2+2");
        edge.reads(x, 0, "xabqcdefy");
        x.undo();
        edge.stands(x, 0, "0+0 1+7");
    }

    /** What comes first moves what the next one has to go past. */
    private static void pulledPastWhatCameAhead() {
        PatchHouse moved = Edge.begun("abcdef");
        moved.record(0, 0, 3, 'w');
        moved.record(1, 0, 2, 'x');
        moved.record(1, 1, 3, 0);
        edge.answers("the own one stands at 4 for the second", moved.pull(0, 2), 2);
        edge.stands(moved, 0, "0+3 1+2 2-3");
        edge.reads(moved, 0, "abxwdef");
        PatchHouse x = Edge.begun("abcdef");
        x.record(0, 0, 3, 'w');
        x.record(1, 0, 1, 'x');
        x.record(1, 1, 2, 0);
        edge.answers("two come", x.pull(0, 2), 2);
        edge.stands(x, 0, "0+3 1+1 2-2");
        edge.reads(x, 0, "axcwdef");
        PatchHouse y = Edge.begun("abcdef");
        y.record(0, 0, 3, 'w');
        y.record(1, 0, 1, 'x');
        y.record(1, 1, 2, 0);
        y.record(1, 0, 2, 'y');
        y.record(1, 0, 3, 'v');
        edge.answers("two needs and it", y.pull(0, 3), 3);
        edge.reads(y, 0, "axycwdef");
        edge.answers("the last, its needs are there", y.pull(0, 4), 1);
        edge.reads(y, 0, "axyvcwdef");
    }
}
