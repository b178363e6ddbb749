/** The boundaries of promises 16 to 22: shelve, shelveText, empty, shelved, letter, isText, oppose. */
public final class ShelvesEdgesTest {
    private static final int NONE = Edge.NONE, UNKNOWN = Edge.UNKNOWN, OUTSIDE = Edge.OUTSIDE, NOT = Edge.NOT,
        FULL = Edge.FULL, NULL = Edge.NULL, CAST = Edge.CAST;
    private static final Edge edge = new Edge();

    private ShelvesEdgesTest() {
    }

    public static void main(String[] args) {
        shelveOnAShelf();
        shelveOfAHouse();
        shelveAPlace();
        shelveAsItStands();
        shelveOverWhatWasHeld();
        shelveTextOnAShelf();
        shelveTextOfAHouse();
        shelveTextOfNoLetters();
        shelveTextOfTheLongest();
        emptyAShelf();
        emptyWhatItHeld();
        shelvedOnAShelf();
        shelvedWhat();
        shelvedOfAnother();
        letterOnAShelf();
        letterAPlace();
        letterOfAnother();
        isTextOnAShelf();
        isTextOfAHouse();
        isTextOfAnother();
        isTextOrNot();
        opposeOnAShelf();
        opposeInAHouse();
        opposeOfAnother();
        opposeAnotherLetter();
        opposeNoSuchPlace();
        opposeTwentyFourNumbers();
        opposeSixteenChanges();
        opposeTwentyFourLetters();
        opposeRefusedInOrder();
        opposeTheOpposite();
        edge.end("ShelvesEdgesTest");
    }

    // ---- promise 16

    private static void shelveOnAShelf() {
        for (int s : Edge.past(0, 3)) {
            edge.refuses("shelve(" + s + ", 0, 0)", Edge::busy, x -> x.shelve(s, 0, 0), UNKNOWN);
        }
        PatchHouse x = Edge.made(Edge::busy);
        edge.answers("shelf 0", x.shelve(0, 0, 0), 1);
        edge.answers("shelf 3", x.shelve(3, 0, 2), 4);
        edge.answers("on 0", x.shelved(0, 0), 1);
        edge.answers("on 3", x.shelved(3, 0), 4);
    }

    private static void shelveOfAHouse() {
        for (int h : Edge.past(0, 1)) {
            edge.refuses("shelve(2, " + h + ", 0)", Edge::busy, x -> x.shelve(2, h, 0), UNKNOWN);
        }
        edge.answers("house 0", Edge.made(Edge::busy).shelve(2, 0, 1), 0);
        edge.answers("house 1", Edge.made(Edge::busy).shelve(2, 1, 1), 2);
    }

    private static void shelveAPlace() {
        for (int i : Edge.past(0, 2)) {
            edge.refuses("shelve(1, 0, " + i + ")", Edge::busy, x -> x.shelve(1, 0, i), UNKNOWN);
        }
        edge.answers("the last place", Edge.made(Edge::busy).shelve(1, 0, 2), 4);
        edge.refuses("of no changes", x -> Edge.begin(x, "ab"), x -> x.shelve(0, 0, 0), UNKNOWN);
        PatchHouse x = new PatchHouse();
        Edge.puts(x, 1, 16, 0);
        edge.answers("place 15", x.shelve(0, 1, 15), 15);
        edge.answers("place 16", x.shelve(0, 1, 16), UNKNOWN);
        edge.answers("it holds what it held", x.shelved(0, 0), 15);
    }

    private static void shelveAsItStands() {
        PatchHouse x = Edge.begun("ab");
        x.record(0, 0, 2, 'y');
        x.record(0, 0, 0, 'x');
        x.shelve(0, 0, 0);
        x.turn(0, 0);
        x.shelve(1, 0, 1);
        edge.answers("as it stood", x.shelved(0, 2), 2);
        edge.answers("as it stands", x.shelved(1, 2), 3);
        edge.answers("the same number", x.shelved(0, 0) + x.shelved(1, 0), 0);
        x.takeOff(0, 0);
        edge.answers("though it is taken off", x.shelved(1, 3), 'y');
    }

    private static void shelveOverWhatWasHeld() {
        PatchHouse x = Edge.made(Edge::busy);
        x.shelve(1, 0, 0);
        edge.answers("a change over a text", x.letter(1, 0), CAST);
        edge.answers("is there", x.shelved(1, 0), 1);
        x.shelveText(1, 0);
        edge.answers("a text over a change", x.shelved(1, 0), CAST);
        edge.answers("is there", x.letter(1, 0), 'x');
        x.shelve(1, 1, 3);
        edge.answers("a change again", x.shelved(1, 0), 6);
        edge.answers("the others hold what they held", x.shelved(0, 0), 0);
    }

    // ---- promise 17

    private static void shelveTextOnAShelf() {
        for (int s : Edge.past(0, 3)) {
            edge.refuses("shelveText(" + s + ", 0)", Edge::busy, x -> x.shelveText(s, 0), UNKNOWN);
        }
        PatchHouse x = Edge.made(Edge::busy);
        edge.answers("shelf 0", x.shelveText(0, 0), 7);
        edge.answers("shelf 3", x.shelveText(3, 1), 8);
    }

    private static void shelveTextOfAHouse() {
        for (int h : Edge.past(0, 1)) {
            edge.refuses("shelveText(1, " + h + ")", Edge::busy, x -> x.shelveText(1, h), UNKNOWN);
            edge.refuses("shelveText(2, " + h + ")", Edge::busy, x -> x.shelveText(2, h), UNKNOWN);
        }
    }

    private static void shelveTextOfNoLetters() {
        PatchHouse x = new PatchHouse();
        edge.answers("no letters", x.shelveText(0, 0), 0);
        edge.answers("a text all the same", x.shelved(0, 0), CAST);
        edge.answers("without a letter", x.letter(0, 0), NONE);
        edge.answers("that of the house", x.isText(0, 1), 1);
        edge.answers("not empty", x.empty(0), 2);
    }

    private static void shelveTextOfTheLongest() {
        PatchHouse x = Edge.made(Edge::longest);
        edge.answers("26 letters", x.shelveText(3, 0), 26);
        edge.answers("the 26th", x.letter(3, 25), 'z');
        edge.answers("no 27th", x.letter(3, 26), NONE);
        edge.answers("that of the house", x.isText(3, 0), 1);
        edge.answers("12 letters over 26", x.shelveText(3, 1), 12);
        edge.answers("the 12th", x.letter(3, 11), 'l');
        edge.answers("no 13th", x.letter(3, 12), NONE);
        edge.answers("that of house 1", x.isText(3, 1), 1);
    }

    // ---- promise 18

    private static void emptyAShelf() {
        for (int s : Edge.past(0, 3)) {
            edge.refuses("empty(" + s + ")", Edge::busy, x -> x.empty(s), UNKNOWN);
        }
        PatchHouse x = new PatchHouse();
        for (int s = 0; s < 4; s++) {
            edge.answers("empty at first: " + s, x.empty(s), 0);
        }
    }

    private static void emptyWhatItHeld() {
        PatchHouse x = Edge.made(Edge::busy);
        int[] want = {1, 2, 0, 1};
        for (int s = 0; s < 4; s++) {
            edge.answers("shelf " + s, x.empty(s), want[s]);
            edge.answers("is empty then", x.shelved(s, 0), NULL);
            edge.answers("again", x.empty(s), 0);
            edge.answers("the next holds what it held", s == 3 ? 0 : x.shelved(s + 1, 0), new int[] {CAST, NULL, 1, 0}[s]);
        }
        edge.answers("nothing undone by that", x.told(3), 5);
    }

    // ---- promise 19

    private static void shelvedOnAShelf() {
        for (int s : Edge.past(0, 3)) {
            edge.refuses("shelved(" + s + ", 0)", Edge::busy, x -> x.shelved(s, 0), UNKNOWN);
            edge.refuses("UNKNOWN ahead of OUTSIDE", Edge::busy, x -> x.shelved(s, 4), UNKNOWN);
        }
    }

    private static void shelvedWhat() {
        for (int what : Edge.past(0, 3)) {
            edge.refuses("shelved(0, " + what + ")", Edge::busy, x -> x.shelved(0, what), OUTSIDE);
            edge.refuses("OUTSIDE ahead of CAST", Edge::busy, x -> x.shelved(1, what), OUTSIDE);
            edge.refuses("OUTSIDE ahead of NULL", Edge::busy, x -> x.shelved(2, what), OUTSIDE);
        }
        PatchHouse x = Edge.made(Edge::busy);
        int[][] want = {{0, 0, 0, 'x'}, {1, 0, 6, 'y'}};
        for (int what = 0; what < 4; what++) {
            edge.answers("shelved(0, " + what + ")", x.shelved(0, what), want[0][what]);
            edge.answers("shelved(3, " + what + ")", x.shelved(3, what), want[1][what]);
        }
    }

    private static void shelvedOfAnother() {
        for (int w = 0; w < 4; w++) {
            int what = w;
            edge.refuses("CAST: a text", Edge::busy, x -> x.shelved(1, what), CAST);
            edge.refuses("NULL: empty", Edge::busy, x -> x.shelved(2, what), NULL);
        }
    }

    // ---- promise 20

    private static void letterOnAShelf() {
        for (int s : Edge.past(0, 3)) {
            edge.refuses("letter(" + s + ", 0)", Edge::busy, x -> x.letter(s, 0), UNKNOWN);
            edge.refuses("UNKNOWN ahead of OUTSIDE", Edge::busy, x -> x.letter(s, -1), UNKNOWN);
        }
    }

    private static void letterAPlace() {
        for (int i : Edge.below(0)) {
            edge.refuses("letter(1, " + i + ")", Edge::busy, x -> x.letter(1, i), OUTSIDE);
            edge.refuses("OUTSIDE ahead of CAST", Edge::busy, x -> x.letter(0, i), OUTSIDE);
            edge.refuses("OUTSIDE ahead of NULL", Edge::busy, x -> x.letter(2, i), OUTSIDE);
        }
        PatchHouse x = Edge.made(Edge::busy);
        edge.answers("the first", x.letter(1, 0), 'q');
        edge.answers("the last", x.letter(1, 7), 'v');
        for (int i : new int[] {8, 9, 26, 28, 29, 32, 256, 65536, Integer.MAX_VALUE}) {
            edge.answers("not so many: " + i, x.letter(1, i), NONE);
        }
    }

    private static void letterOfAnother() {
        for (int i : new int[] {0, 8, Integer.MAX_VALUE}) {
            edge.refuses("CAST: a change", Edge::busy, x -> x.letter(0, i), CAST);
            edge.refuses("NULL: empty", Edge::busy, x -> x.letter(2, i), NULL);
        }
    }

    // ---- promise 21

    private static void isTextOnAShelf() {
        for (int s : Edge.past(0, 3)) {
            edge.refuses("isText(" + s + ", 0)", Edge::busy, x -> x.isText(s, 0), UNKNOWN);
        }
    }

    private static void isTextOfAHouse() {
        for (int h : Edge.past(0, 1)) {
            edge.refuses("isText(1, " + h + ")", Edge::busy, x -> x.isText(1, h), UNKNOWN);
            edge.refuses("UNKNOWN ahead of CAST", Edge::busy, x -> x.isText(0, h), UNKNOWN);
            edge.refuses("UNKNOWN ahead of NULL", Edge::busy, x -> x.isText(2, h), UNKNOWN);
        }
    }

    private static void isTextOfAnother() {
        for (int h = 0; h < 2; h++) {
            int house = h;
            edge.refuses("CAST: a change", Edge::busy, x -> x.isText(0, house), CAST);
            edge.refuses("NULL: empty", Edge::busy, x -> x.isText(2, house), NULL);
        }
    }

    private static void isTextOrNot() {
        PatchHouse x = Edge.begun("ab");
        x.shelveText(0, 0);
        edge.answers("the same", x.isText(0, 0), 1);
        edge.answers("of the other house, too", x.isText(0, 1), 1);
        x.record(0, 0, 2, 'c');
        edge.answers("the house has one more", x.isText(0, 0), 0);
        x.shelveText(1, 0);
        edge.answers("the shelf has one more", x.isText(1, 1), 0);
        x.record(1, 0, 2, 'd');
        edge.answers("the last letter is another one", x.isText(1, 1), 0);
        x.record(1, 1, 2, 0);
        x.record(1, 0, 2, 'c');
        edge.answers("the same again, by other changes", x.isText(1, 1), 1);
        x.record(1, 1, 0, 0);
        x.record(1, 0, 0, 'b');
        edge.answers("the first letter is another one", x.isText(1, 1), 0);
        edge.answers("nothing is", x.empty(3), 0);
    }

    // ---- promise 22

    private static void opposeOnAShelf() {
        for (int s : Edge.past(0, 3)) {
            edge.refuses("oppose(" + s + ", 0)", Edge::busy, x -> x.oppose(s, 0), UNKNOWN);
        }
        edge.answers("shelf 0", Edge.made(Edge::busy).oppose(0, 0), 7);
        edge.answers("shelf 3", Edge.made(Edge::busy).oppose(3, 0), 7);
    }

    private static void opposeInAHouse() {
        for (int h : Edge.past(0, 1)) {
            edge.refuses("oppose(0, " + h + ")", Edge::busy, x -> x.oppose(0, h), UNKNOWN);
            edge.refuses("UNKNOWN ahead of CAST", Edge::busy, x -> x.oppose(1, h), UNKNOWN);
            edge.refuses("UNKNOWN ahead of NULL", Edge::busy, x -> x.oppose(2, h), UNKNOWN);
        }
    }

    private static void opposeOfAnother() {
        for (int h = 0; h < 2; h++) {
            int house = h;
            edge.refuses("CAST: a text", Edge::busy, x -> x.oppose(1, house), CAST);
            edge.refuses("NULL: empty", Edge::busy, x -> x.oppose(2, house), NULL);
        }
    }

    private static void opposeAnotherLetter() {
        Edge.Run run = x -> {
            Edge.begin(x, "abc");
            x.record(0, 0, 1, 'x');
            x.shelve(0, 0, 0);
            x.record(1, 0, 0, 'q');
        };
        edge.refuses("the letter there is another one", run, x -> x.oppose(0, 1), NOT);
        PatchHouse x = Edge.made(run);
        edge.answers("the letter there is it", x.oppose(0, 0), 2);
        edge.reads(x, 0, "abc");
        edge.answers("not twice", x.oppose(0, 0), NOT);
        x.record(1, 0, 1, 'x');
        edge.answers("the same letter by another change", x.oppose(0, 1), 4);
        edge.reads(x, 1, "qabc");
        PatchHouse y = Edge.begun("abc");
        y.record(0, 1, 1, 0);
        y.shelve(0, 0, 0);
        edge.answers("for one put in the letter there does not matter", y.oppose(0, 1), 1);
        edge.reads(y, 1, "abbc");
    }

    private static void opposeNoSuchPlace() {
        Edge.Run put = x -> {
            Edge.begin(x, "ab");
            x.record(0, 0, 2, 'c');
            x.shelve(0, 0, 0);
        };
        edge.refuses("to be taken out behind the last letter", put, x -> x.oppose(0, 1), NOT);
        edge.answers("to be taken out: the last letter", Edge.made(put).oppose(0, 0), 1);
        edge.refuses("to be taken out of no letters", x -> {
            x.record(0, 0, 0, 'a');
            x.shelve(0, 0, 0);
            x.undo();
        }, x -> x.oppose(0, 0), NOT);
        Edge.Run taken = x -> {
            Edge.begin(x, "abc");
            x.record(0, 1, 2, 0);
            x.shelve(0, 0, 0);
            x.record(1, 1, 0, 0);
        };
        edge.answers("to be put in behind the last letter", Edge.made(taken).oppose(0, 0), 2);
        edge.answers("in the other house, too", Edge.made(taken).oppose(0, 1), 2);
        edge.refuses("to be put in one further", x -> {
            taken.on(x);
            x.record(1, 1, 0, 0);
        }, x -> x.oppose(0, 1), NOT);
    }

    private static void opposeTwentyFourNumbers() {
        Edge.Run butOne = x -> {
            Edge.puts(x, 0, 12, 0);
            Edge.puts(x, 1, 11, 0);
            x.shelve(0, 0, 0);
        };
        PatchHouse x = Edge.made(butOne);
        edge.answers("the 24th number", x.oppose(0, 1), 23);
        edge.answers("the 25th", x.oppose(0, 1), FULL);
        edge.refuses("the 25th number", y -> {
            butOne.on(y);
            y.record(1, 0, 0, 'a');
        }, y -> y.oppose(0, 0), FULL);
    }

    private static void opposeSixteenChanges() {
        Edge.Run fifteen = x -> {
            Edge.puts(x, 0, 15, 0);
            x.shelve(0, 0, 0);
        };
        edge.answers("the 16th change", Edge.made(fifteen).oppose(0, 0), 15);
        edge.refuses("the 17th change", x -> {
            fifteen.on(x);
            x.record(0, 0, 0, 'z');
        }, x -> x.oppose(0, 0), FULL);
    }

    private static void opposeTwentyFourLetters() {
        Edge.Run twentyThree = x -> {
            Edge.begin(x, "abcdefghijkl");
            x.record(1, 1, 0, 0);
            x.shelve(0, 1, 0);
            Edge.puts(x, 0, 11, 12);
            x.shelve(1, 0, 0);
        };
        Edge.Run twentyFour = x -> {
            twentyThree.on(x);
            x.record(0, 0, 12, 'z');
        };
        edge.answers("the 24th letter", Edge.made(twentyThree).oppose(0, 0), 12);
        edge.refuses("the 25th letter", twentyFour, x -> x.oppose(0, 0), FULL);
        edge.answers("taken out of 24", Edge.made(twentyFour).oppose(1, 0), 13);
        edge.refuses("put in to 26 letters", x -> {
            Edge.longest(x);
            x.record(1, 1, 0, 0);
            x.shelve(0, 1, 0);
        }, x -> x.oppose(0, 0), FULL);
        PatchHouse longest = Edge.made(Edge::longest);
        longest.shelve(0, 0, 0);
        edge.answers("taken out of 26", longest.oppose(0, 0), 16);
        edge.answers("25 letters", longest.house(0, 0), 25);
    }

    private static void opposeRefusedInOrder() {
        Edge.Run full = x -> {
            Edge.begin(x, "abcdefgh");
            x.record(1, 0, 0, 'x');
            x.shelve(0, 1, 0);
            x.shelveText(1, 1);
            Edge.puts(x, 1, 7, 0);
            Edge.puts(x, 0, 16, 0);
        };
        edge.refuses("UNKNOWN ahead of FULL", full, x -> x.oppose(0, 2), UNKNOWN);
        edge.refuses("CAST ahead of FULL", full, x -> x.oppose(1, 0), CAST);
        edge.refuses("NULL ahead of FULL", full, x -> x.oppose(2, 0), NULL);
        edge.refuses("NOT ahead of FULL", full, x -> x.oppose(0, 0), NOT);
        edge.refuses("FULL", x -> {
            full.on(x);
            x.shelve(0, 0, 15);
        }, x -> x.oppose(0, 0), FULL);
    }

    private static void opposeTheOpposite() {
        PatchHouse x = Edge.begun("abc");
        x.record(0, 1, 1, 0);
        x.shelve(0, 0, 0);
        edge.answers("put in again", x.oppose(0, 0), 1);
        edge.stands(x, 0, "0-1 1+1");
        edge.answers("its letter", x.history(0, 1, 3), 'b');
        x.shelve(0, 0, 1);
        edge.answers("taken out again", x.oppose(0, 0), 2);
        edge.stands(x, 0, "0-1 1+1 2-1");
        edge.answers("its letter", x.history(0, 2, 3), 'b');
        edge.answers("the shelf holds what it held", x.shelved(0, 0), 1);
        edge.answers("undone", x.undo(), 2);
        edge.reads(x, 0, "abc");
    }
}
