/** The boundaries of promises 4 to 6: record, takeOff, turn. */
public final class RecordEdgesTest {
    private static final int NONE = Edge.NONE, UNKNOWN = Edge.UNKNOWN, OUTSIDE = Edge.OUTSIDE, NOT = Edge.NOT, FULL = Edge.FULL;
    private static final Edge edge = new Edge();

    private RecordEdgesTest() {
    }

    public static void main(String[] args) {
        recordInAHouse();
        recordASort();
        recordALetter();
        recordALetterTakenOut();
        recordAPlacePutIn();
        recordAPlaceTakenOut();
        recordTwentyFourNumbers();
        recordSixteenChanges();
        recordTwentyFourLetters();
        recordInTheLongest();
        recordRefusedInOrder();
        takeOffOfAHouse();
        takeOffAChange();
        takeOffWhatIsThereNoMore();
        takeOffWhatCannotBeBrought();
        takeOffFirstAndLast();
        turnOfAHouse();
        turnAPlace();
        turnWithNoneBehind();
        turnWhatCannotBe();
        turnEachRule();
        edge.end("RecordEdgesTest");
    }

    // ---- promise 4

    private static void recordInAHouse() {
        for (int h : Edge.past(0, 1)) {
            edge.refuses("record, house " + h, Edge::busy, x -> x.record(h, 0, 0, 'a'), UNKNOWN);
        }
        edge.answers("record, house 0", Edge.made(Edge::busy).record(0, 0, 0, 'a'), 7);
        edge.answers("record, house 1", Edge.made(Edge::busy).record(1, 0, 0, 'a'), 7);
    }

    private static void recordASort() {
        for (int sort : Edge.past(0, 1)) {
            edge.refuses("record, sort " + sort, Edge::busy, x -> x.record(0, sort, 0, 'a'), OUTSIDE);
        }
        PatchHouse x = Edge.begun("ab");
        x.record(0, 0, 1, 'c');
        x.record(0, 1, 0, 'c');
        edge.stands(x, 0, "0+1 1-0");
        edge.reads(x, 0, "cb");
    }

    private static void recordALetter() {
        for (int letter : Edge.past(97, 122)) {
            edge.refuses("put in, letter " + letter, Edge::busy, x -> x.record(0, 0, 0, letter), OUTSIDE);
        }
        PatchHouse x = new PatchHouse();
        edge.answers("put in, letter 97", x.record(0, 0, 0, 97), 0);
        edge.answers("put in, letter 122", x.record(0, 0, 1, 122), 1);
        edge.reads(x, 0, "az");
    }

    private static void recordALetterTakenOut() {
        for (int letter : Edge.past(97, 122)) {
            PatchHouse x = Edge.begun("abc");
            edge.answers("taken out, letter " + letter + " does not matter", x.record(0, 1, 1, letter), 0);
            edge.answers("its letter is the one at the place", x.history(0, 0, 3), 'b');
        }
        PatchHouse x = Edge.begun("abc");
        x.record(1, 1, 1, 'c');
        edge.answers("nor does a letter of another place", x.history(1, 0, 3), 'b');
    }

    private static void recordAPlacePutIn() {
        for (int place : Edge.past(0, 7)) {
            edge.refuses("put in at " + place + " of 7 letters", Edge::busy, x -> x.record(0, 0, place, 'a'), OUTSIDE);
        }
        PatchHouse x = Edge.made(Edge::busy);
        edge.answers("put in at 7, behind all", x.record(0, 0, 7, 'a'), 7);
        edge.answers("put in at 0, ahead of all", x.record(0, 0, 0, 'b'), 8);
        edge.reads(x, 0, "bxabcefya");
        edge.refuses("put in at 1 of no letters", y -> { }, y -> y.record(0, 0, 1, 'a'), OUTSIDE);
        edge.refuses("put in at -1 of no letters", y -> { }, y -> y.record(0, 0, -1, 'a'), OUTSIDE);
        edge.answers("put in at 0 of no letters", new PatchHouse().record(0, 0, 0, 'a'), 0);
    }

    private static void recordAPlaceTakenOut() {
        for (int place : Edge.past(0, 6)) {
            edge.refuses("taken out at " + place + " of 7 letters", Edge::busy, x -> x.record(0, 1, place, 'a'), OUTSIDE);
        }
        PatchHouse x = Edge.made(Edge::busy);
        edge.answers("taken out at 6, the last", x.record(0, 1, 6, 'a'), 7);
        edge.answers("taken out at 0, the first", x.record(0, 1, 0, 'b'), 8);
        edge.reads(x, 0, "abcef");
        edge.refuses("taken out of no letters", y -> { }, y -> y.record(0, 1, 0, 'a'), OUTSIDE);
        edge.refuses("taken out ahead of no letters", y -> { }, y -> y.record(0, 1, -1, 'a'), OUTSIDE);
        PatchHouse one = Edge.begun("a");
        edge.answers("the only letter", one.record(1, 1, 0, 0), 0);
        edge.answers("and none any more", one.record(1, 1, 0, 0), OUTSIDE);
    }

    private static void twentyThree(PatchHouse x) {
        Edge.puts(x, 0, 12, 0);
        Edge.puts(x, 1, 11, 0);
    }

    private static void recordTwentyFourNumbers() {
        Edge.Run all = x -> {
            twentyThree(x);
            x.record(1, 0, 0, 'a');
        };
        edge.answers("the 24th number", Edge.made(RecordEdgesTest::twentyThree).record(1, 0, 0, 'a'), 23);
        edge.answers("the 24th number, taken out", Edge.made(RecordEdgesTest::twentyThree).record(0, 1, 0, 0), 23);
        for (int h = 0; h < 2; h++) {
            int house = h;
            edge.refuses("the 25th number, put in", all, x -> x.record(house, 0, 0, 'a'), FULL);
            edge.refuses("the 25th number, taken out", all, x -> x.record(house, 1, 0, 0), FULL);
        }
        edge.refuses("numbers of what was taken off", x -> {
            all.on(x);
            x.takeOff(1, 23);
        }, x -> x.record(1, 0, 0, 'a'), FULL);
        edge.refuses("numbers of what was undone", x -> {
            all.on(x);
            x.undo();
        }, x -> x.record(1, 0, 0, 'a'), FULL);
    }

    private static void recordSixteenChanges() {
        Edge.Run fifteen = x -> Edge.puts(x, 1, 15, 0);
        Edge.Run sixteen = x -> Edge.puts(x, 1, 16, 0);
        edge.answers("the 16th change", Edge.made(fifteen).record(1, 0, 0, 'a'), 15);
        edge.answers("the 16th change, taken out", Edge.made(fifteen).record(1, 1, 14, 0), 15);
        edge.refuses("the 17th change, put in", sixteen, x -> x.record(1, 0, 0, 'a'), FULL);
        edge.refuses("the 17th change, taken out", sixteen, x -> x.record(1, 1, 0, 0), FULL);
        edge.answers("the other house has none", Edge.made(sixteen).record(0, 0, 0, 'a'), 16);
        PatchHouse off = Edge.made(sixteen);
        edge.answers("one is taken off", off.takeOff(1, 7), 15);
        edge.answers("so there is room for one", off.record(1, 0, 0, 'a'), 16);
        edge.answers("and for no more", off.record(1, 0, 0, 'a'), FULL);
        PatchHouse back = Edge.made(sixteen);
        back.undo();
        edge.answers("one is undone: room for one", back.record(1, 0, 0, 'a'), 16);
    }

    private static void recordTwentyFourLetters() {
        Edge.Run twentyThree = x -> {
            Edge.begin(x, "abcdefghijkl");
            Edge.puts(x, 0, 11, 12);
        };
        Edge.Run twentyFour = x -> {
            twentyThree.on(x);
            x.record(0, 0, 23, 'y');
        };
        edge.answers("the 24th letter", Edge.made(twentyThree).record(0, 0, 23, 'y'), 11);
        edge.answers("24 letters", Edge.made(twentyFour).house(0, 0), 24);
        edge.refuses("the 25th letter", twentyFour, x -> x.record(0, 0, 0, 'a'), FULL);
        edge.refuses("the 25th letter, behind all", twentyFour, x -> x.record(0, 0, 24, 'a'), FULL);
        PatchHouse x = Edge.made(twentyFour);
        edge.answers("taken out of 24 letters", x.record(0, 1, 23, 0), 12);
        edge.answers("the letter taken out", x.history(0, 12, 3), 'y');
        edge.answers("put in again", x.record(0, 0, 23, 'w'), 13);
        edge.answers("and no more", x.record(0, 0, 0, 'w'), FULL);
        edge.answers("the other house has 12", x.record(1, 0, 0, 'w'), 14);
    }

    private static void recordInTheLongest() {
        PatchHouse x = Edge.made(Edge::longest);
        edge.answers("26 letters", x.house(0, 0), 26);
        edge.answers("14 changes", x.house(0, 1), 14);
        edge.refuses("put in to 26 letters", Edge::longest, y -> y.record(0, 0, 0, 'a'), FULL);
        edge.refuses("a place behind 26 letters", Edge::longest, y -> y.record(0, 0, 27, 'a'), OUTSIDE);
        edge.refuses("taken out behind 26 letters", Edge::longest, y -> y.record(0, 1, 26, 0), OUTSIDE);
        edge.answers("taken out of 26 letters", x.record(0, 1, 25, 0), 16);
        edge.answers("put in to 25 letters", x.record(0, 0, 0, 'a'), FULL);
        edge.answers("taken out of 25 letters", x.record(0, 1, 0, 0), 17);
        edge.reads(x, 0, "bcdefghijkl" + "zzzzzzzzzzzzz");
        edge.answers("the 16th change was that", x.record(0, 1, 0, 0), FULL);
    }

    private static void recordRefusedInOrder() {
        Edge.Run full = x -> {
            Edge.begin(x, "abcdefgh");
            Edge.puts(x, 0, 16, 8);
            Edge.puts(x, 1, 8, 8);
        };
        edge.refuses("UNKNOWN ahead of OUTSIDE, FULL", full, x -> x.record(2, 2, -1, 0), UNKNOWN);
        edge.refuses("OUTSIDE (sort) ahead of FULL", full, x -> x.record(0, 2, 0, 'a'), OUTSIDE);
        edge.refuses("OUTSIDE (letter) ahead of FULL", full, x -> x.record(0, 0, 0, 123), OUTSIDE);
        edge.refuses("OUTSIDE (place) ahead of FULL", full, x -> x.record(0, 0, 25, 'a'), OUTSIDE);
        edge.refuses("OUTSIDE (place taken out) ahead of FULL", full, x -> x.record(0, 1, 24, 0), OUTSIDE);
        edge.refuses("FULL", full, x -> x.record(0, 0, 24, 'a'), FULL);
    }

    // ---- promise 5

    private static void takeOffOfAHouse() {
        for (int h : Edge.past(0, 1)) {
            edge.refuses("takeOff, house " + h, Edge::busy, x -> x.takeOff(h, 1), UNKNOWN);
        }
        edge.answers("takeOff, house 0", Edge.made(Edge::busy).takeOff(0, 1), 2);
        edge.answers("takeOff, house 1", Edge.made(Edge::busy).takeOff(1, 1), 3);
    }

    private static void takeOffAChange() {
        for (int change : Edge.past(0, 23)) {
            edge.refuses("takeOff, change " + change, Edge::busy, x -> x.takeOff(0, change), UNKNOWN);
        }
        edge.refuses("of the other house alone", Edge::busy, x -> x.takeOff(0, 2), UNKNOWN);
        edge.refuses("the next number, not given yet", Edge::busy, x -> x.takeOff(0, 7), UNKNOWN);
        edge.refuses("of a house without changes", x -> Edge.begin(x, "a"), x -> x.takeOff(0, 0), UNKNOWN);
        PatchHouse x = new PatchHouse();
        Edge.puts(x, 0, 12, 0);
        Edge.puts(x, 1, 12, 0);
        edge.answers("change 23", x.takeOff(1, 23), 11);
        edge.answers("change 0", x.takeOff(0, 0), 11);
    }

    private static void takeOffWhatIsThereNoMore() {
        edge.refuses("taken off already", Edge::busy, x -> x.takeOff(0, 5), UNKNOWN);
        edge.refuses("undone", x -> {
            x.record(0, 0, 0, 'a');
            x.undo();
        }, x -> x.takeOff(0, 0), UNKNOWN);
        PatchHouse x = Edge.made(Edge::busy);
        x.undo();
        edge.answers("taken off, but that is undone", x.takeOff(0, 5), 3);
    }

    /** Two put in beside one taken out: only those just beside it are needed by it. */
    private static void takeOffWhatCannotBeBrought() {
        for (int place = 0; place <= 6; place++) {
            int taken = place;
            Edge.Run run = x -> {
                Edge.begin(x, "abcdef");
                x.record(0, 0, 3, 'x');
                x.record(0, 1, taken, 0);
            };
            if (place >= 2 && place <= 4) {
                edge.refuses("put in at 3, taken out at " + place, run, x -> x.takeOff(0, 0), NOT);
            } else {
                edge.answers("put in at 3, taken out at " + place, Edge.made(run).takeOff(0, 0), 1);
            }
        }
        for (int place = 2; place <= 4; place++) {
            int put = place;
            Edge.Run run = x -> {
                Edge.begin(x, "abcdef");
                x.record(0, 1, 3, 0);
                x.record(0, 0, put, 'x');
            };
            if (place == 3) {
                edge.refuses("taken out at 3, put in there", run, x -> x.takeOff(0, 0), NOT);
            } else {
                edge.answers("taken out at 3, put in at " + place, Edge.made(run).takeOff(0, 0), 1);
            }
        }
        edge.refuses("the last but one of a chain", x -> Edge.chain(x, 0, 16), x -> x.takeOff(0, 14), NOT);
        edge.refuses("stopped only by the last of 16", RecordEdgesTest::stoppedByTheLast, x -> x.takeOff(0, 0), NOT);
    }

    private static void stoppedByTheLast(PatchHouse x) {
        Edge.begin(x, "ab");
        x.record(0, 0, 1, 'x');
        Edge.puts(x, 0, 14, 3);
        x.record(0, 1, 1, 0);
    }

    private static void takeOffFirstAndLast() {
        PatchHouse x = Edge.begun("ab");
        x.record(0, 0, 1, 'x');
        Edge.puts(x, 0, 15, 0);
        edge.answers("the first of 16 past all others", x.takeOff(0, 0), 15);
        edge.reads(x, 0, "zzzzzzzzzzzzzzz" + "ab");
        edge.answers("the last", x.takeOff(0, 15), 14);
        for (int c = 1; c < 14; c++) {
            x.takeOff(0, c);
        }
        edge.answers("the only one", x.takeOff(0, 14), 0);
        edge.reads(x, 0, "ab");
        PatchHouse chain = new PatchHouse();
        Edge.chain(chain, 1, 16);
        for (int c = 15; c >= 0; c--) {
            edge.answers("a chain from its end", chain.takeOff(1, c), c);
        }
    }

    // ---- promise 6

    private static void turnOfAHouse() {
        for (int h : Edge.past(0, 1)) {
            edge.refuses("turn, house " + h, Edge::busy, x -> x.turn(h, 0), UNKNOWN);
        }
        edge.answers("turn, house 0", Edge.made(Edge::busy).turn(0, 0), 0);
        edge.answers("turn, house 1", Edge.made(Edge::busy).turn(1, 0), 2);
    }

    private static void turnAPlace() {
        for (int i : Edge.past(0, 1)) {
            edge.refuses("turn, place " + i + " of 3 changes", Edge::busy, x -> x.turn(0, i), UNKNOWN);
        }
        edge.answers("turn, the last place that has one behind", Edge.made(Edge::busy).turn(0, 1), 4);
        Edge.Run sixteen = x -> Edge.puts(x, 1, 16, 0);
        edge.answers("turn, place 14 of 16", Edge.made(sixteen).turn(1, 14), 15);
        edge.refuses("turn, place 15 of 16", sixteen, x -> x.turn(1, 15), UNKNOWN);
        edge.refuses("turn, place 16 of 16", sixteen, x -> x.turn(1, 16), UNKNOWN);
    }

    private static void turnWithNoneBehind() {
        edge.refuses("turn of no changes", x -> Edge.begin(x, "ab"), x -> x.turn(0, 0), UNKNOWN);
        edge.refuses("turn of no changes, place -1", x -> Edge.begin(x, "ab"), x -> x.turn(0, -1), UNKNOWN);
        edge.refuses("turn of one change", x -> x.record(0, 0, 0, 'a'), x -> x.turn(0, 0), UNKNOWN);
        edge.refuses("what is taken off is not behind", x -> {
            Edge.puts(x, 0, 2, 0);
            x.takeOff(0, 1);
        }, x -> x.turn(0, 0), UNKNOWN);
    }

    private static void turnWhatCannotBe() {
        edge.refuses("put in and taken out again", x -> Edge.chain(x, 0, 2), x -> x.turn(0, 0), NOT);
        edge.refuses("taken out and put in there", x -> Edge.chain(x, 0, 3), x -> x.turn(0, 1), NOT);
        edge.refuses("the last two of 16", x -> Edge.chain(x, 0, 16), x -> x.turn(0, 14), NOT);
    }

    /** Both sorts, places all about one another: as round() tells, and the text is the same. */
    private static void turnEachRule() {
        for (int sort = 0; sort < 2; sort++) {
            for (int other = 0; other < 2; other++) {
                for (int j = 0; j <= 6; j++) {
                    turnOne(sort, other, j);
                }
            }
        }
    }

    private static void turnOne(int sort, int other, int j) {
        PatchHouse x = Edge.begun("abcdefgh");
        x.record(0, sort, 3, 'x');
        x.record(0, other, j, 'y');
        String text = Sight.text(x, 0);
        int round = x.round(sort, 3, other, j);
        String name = "sorts " + sort + ", " + other + " at 3, " + j;
        edge.answers(name + ": can be", x.history(0, 0, 4), round == NONE ? 0 : 1);
        edge.answers(name + ": turned", x.turn(0, 0), round == NONE ? NOT : 1);
        if (round != NONE) {
            edge.stands(x, 0, "1" + (other == 0 ? "+" : "-") + round / 100 + " 0" + (sort == 0 ? "+" : "-") + round % 100);
        }
        edge.reads(x, 0, text);
    }
}
