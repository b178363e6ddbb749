/** The boundaries of promises 10 to 15: told, house, text, history, change, round. */
public final class ToldEdgesTest {
    private static final int NONE = Edge.NONE, UNKNOWN = Edge.UNKNOWN, OUTSIDE = Edge.OUTSIDE;
    private static final Edge edge = new Edge();

    private ToldEdgesTest() {
    }

    public static void main(String[] args) {
        toldWhat();
        toldLettersAndNumbers();
        toldAlike();
        toldHowManyCanBeUndone();
        toldWhatBothHave();
        houseOfAHouse();
        houseWhat();
        houseLetters();
        houseChanges();
        houseSets();
        houseLawfulUpToSix();
        houseLawfulOfAHistoryThatNeeds();
        houseLawfulOfManyThenOfFew();
        houseHeld();
        textOfAHouse();
        textALetter();
        textOfTheLongest();
        historyOfAHouse();
        historyAPlace();
        historyWhat();
        historyWithNoneBehind();
        changeOfAHouse();
        changeAChange();
        changeWhat();
        changeNeeds();
        changeToTheEnd();
        roundSorts();
        roundPlaces();
        roundEachRule();
        roundLeavesTheText();
        edge.end("ToldEdgesTest");
    }

    // ---- promise 10

    private static void toldWhat() {
        for (int what : Edge.past(0, 4)) {
            edge.refuses("told(" + what + ")", Edge::busy, x -> x.told(what), OUTSIDE);
        }
        PatchHouse x = Edge.made(Edge::busy);
        int[] want = {6, 7, 0, 5, 2};
        for (int what = 0; what < want.length; what++) {
            edge.answers("told(" + what + ")", x.told(what), want[what]);
        }
    }

    private static void toldLettersAndNumbers() {
        edge.answers("no letters", new PatchHouse().told(0), 0);
        edge.answers("12 letters", Edge.begun("abcdefghijkl").told(0), 12);
        PatchHouse x = Edge.begun("ab");
        x.record(0, 1, 0, 0);
        edge.answers("the beginning stays", x.told(0), 2);
        x.anew();
        Edge.puts(x, 0, 12, 0);
        edge.answers("12 numbers", x.told(1), 12);
        Edge.puts(x, 1, 12, 0);
        edge.answers("24 numbers", x.told(1), 24);
        Edge.puts(x, 1, 1, 0);
        edge.answers("never more", x.told(1), 24);
    }

    private static void toldAlike() {
        PatchHouse x = Edge.begun("ab");
        edge.answers("the beginning alone", x.told(2), 1);
        x.record(0, 0, 2, 'c');
        edge.answers("one letter more, behind", x.told(2), 0);
        x.record(1, 0, 2, 'd');
        edge.answers("the last letter is another one", x.told(2), 0);
        x.record(1, 1, 2, 0);
        x.record(1, 0, 2, 'c');
        edge.answers("alike by other changes", x.told(2), 1);
        x.record(1, 1, 0, 0);
        x.record(1, 0, 0, 'b');
        edge.answers("the first letter is another one", x.told(2), 0);
        PatchHouse none = Edge.begun("a");
        none.record(0, 1, 0, 0);
        edge.answers("no letters and one", none.told(2), 0);
        none.record(1, 1, 0, 0);
        edge.answers("no letters, both", none.told(2), 1);
    }

    private static void toldHowManyCanBeUndone() {
        PatchHouse x = new PatchHouse();
        Edge.puts(x, 0, 8, 0);
        edge.answers("8", x.told(3), 8);
        Edge.puts(x, 0, 8, 0);
        edge.answers("8 of 16", x.told(3), 8);
        x.undo();
        edge.answers("7", x.told(3), 7);
        x.keep(0);
        edge.answers("none", x.told(3), 0);
    }

    private static void toldWhatBothHave() {
        PatchHouse x = new PatchHouse();
        Edge.chain(x, 0, 8);
        edge.answers("none", x.told(4), 0);
        x.pull(1, 0);
        edge.answers("bit 0", x.told(4), 1);
        x.pull(1, 7);
        edge.answers("all 8", x.told(4), 255);
        PatchHouse last = new PatchHouse();
        Edge.puts(last, 0, 12, 0);
        Edge.puts(last, 1, 12, 0);
        for (int c = 12; c < 23; c++) {
            last.takeOff(1, c);
        }
        for (int c = 0; c < 12; c++) {
            last.takeOff(0, c);
        }
        last.pull(0, 23);
        edge.answers("bit 23", last.told(4), 1 << 23);
    }

    // ---- promise 11

    private static void houseOfAHouse() {
        for (int h : Edge.past(0, 1)) {
            edge.refuses("house(" + h + ", 0)", Edge::busy, x -> x.house(h, 0), UNKNOWN);
            edge.refuses("UNKNOWN ahead of OUTSIDE", Edge::busy, x -> x.house(h, 7), UNKNOWN);
        }
    }

    private static void houseWhat() {
        for (int what : Edge.past(0, 6)) {
            edge.refuses("house(0, " + what + ")", Edge::busy, x -> x.house(0, what), OUTSIDE);
            edge.refuses("house(1, " + what + ")", Edge::busy, x -> x.house(1, what), OUTSIDE);
        }
        PatchHouse x = Edge.made(Edge::busy);
        int[][] want = {{7, 3, 19, 17, 6, 2, 0}, {8, 4, 78, 76, 24, 0, 2}};
        for (int h = 0; h < 2; h++) {
            for (int what = 0; what < 7; what++) {
                edge.answers("house(" + h + ", " + what + ")", x.house(h, what), want[h][what]);
            }
        }
    }

    private static void houseLetters() {
        PatchHouse x = Edge.begun("a");
        edge.answers("one", x.house(1, 0), 1);
        x.record(1, 1, 0, 0);
        edge.answers("none", x.house(1, 0), 0);
        edge.answers("the most", Edge.made(Edge::longest).house(0, 0), 26);
    }

    private static void houseChanges() {
        PatchHouse x = new PatchHouse();
        edge.answers("none", x.house(0, 1), 0);
        Edge.puts(x, 0, 16, 0);
        edge.answers("16", x.house(0, 1), 16);
        Edge.puts(x, 0, 1, 0);
        edge.answers("never more", x.house(0, 1), 16);
    }

    private static void houseSets() {
        PatchHouse x = new PatchHouse();
        edge.answers("none", x.house(0, 2), 0);
        edge.answers("none alone", x.house(0, 3), 0);
        Edge.puts(x, 0, 16, 0);
        Edge.puts(x, 1, 8, 0);
        edge.answers("bits 0 to 15", x.house(0, 2), 65535);
        edge.answers("bits 16 to 23", x.house(1, 2), 0xff0000);
        edge.answers("alone", x.house(0, 3), 65535);
        edge.answers("alone", x.house(1, 3), 0xff0000);
        PatchHouse y = new PatchHouse();
        Edge.chain(y, 0, 16);
        y.pull(1, 15);
        edge.answers("all that both have", y.house(1, 2), 65535);
        edge.answers("none alone", y.house(0, 3) + y.house(1, 3), 0);
        y.takeOff(1, 15);
        edge.answers("bit 15 alone", y.house(0, 3), 1 << 15);
        edge.answers("none of its own", y.house(1, 3), 0);
    }

    private static void houseLawfulUpToSix() {
        PatchHouse x = Edge.begun("abcdefghijkl");
        int[] want = {1, 1, 2, 6, 24, 120, 720, NONE, NONE};
        for (int n = 0; n < want.length; n++) {
            edge.answers("lawful of " + n + " put in", x.house(0, 4), want[n]);
            x.record(0, 0, 12 + n, 'z');
        }
        PatchHouse y = Edge.begun("abcdefghijkl");
        for (int n = 0; n < want.length; n++) {
            edge.answers("lawful of " + n + " taken out", y.house(1, 4), want[n]);
            y.record(1, 1, n % 2, 0);
        }
        y.takeOff(1, 0);
        y.takeOff(1, 1);
        edge.answers("7 again", y.house(1, 4), NONE);
        y.takeOff(1, 2);
        edge.answers("6 again", y.house(1, 4), 720);
    }

    private static void houseLawfulOfAHistoryThatNeeds() {
        PatchHouse chain = new PatchHouse();
        Edge.chain(chain, 0, 6);
        edge.answers("its own alone", chain.house(0, 4), 1);
        Edge.chain(chain, 0, 1);
        edge.answers("7 are not looked at", chain.house(0, 4), NONE);
        PatchHouse far = Edge.begun("abcdefghijkl");
        Edge.puts(far, 0, 4, 0);
        far.record(0, 0, 16, 'y');
        far.record(0, 1, 16, 0);
        edge.answers("four that are free, two that are not, at the last place", far.house(0, 4), 360);
        PatchHouse first = Edge.begun("abcdefgh");
        first.record(0, 0, 5, 'x');
        first.record(0, 1, 5, 0);
        edge.answers("the second needs the first", first.house(0, 4), 1);
        PatchHouse two = Edge.begun("abcdef");
        Edge.chain(two, 1, 3);
        for (int k = 0; k < 3; k++) {
            two.record(1, k % 2, two.house(1, 0) - k % 2, 'y');
        }
        edge.answers("two chains of 3: 20 ways to lay one into the other", two.house(1, 4), 20);
        String ahead = Sight.all(two);
        two.house(1, 4);
        edge.same("asked, nothing changes", Sight.all(two), ahead);
    }

    private static void houseLawfulOfManyThenOfFew() {
        PatchHouse x = Edge.begun("ab");
        Edge.puts(x, 0, 6, 0);
        Edge.chain(x, 1, 3);
        for (int k = 0; k < 3; k++) {
            edge.answers("of many", x.house(0, 4), 720);
            edge.answers("then of few", x.house(1, 4), 1);
        }
        x.record(1, 0, 3, 'y');
        edge.answers("of many", x.house(0, 4), 720);
        edge.answers("then of one more, that is free", x.house(1, 4), 4);
    }

    private static void houseHeld() {
        PatchHouse x = Edge.begun("ab");
        x.record(0, 0, 0, 'x');
        x.record(1, 0, 0, 'y');
        edge.answers("none held", x.house(0, 5), NONE);
        edge.answers("no clash", x.house(0, 6), NONE);
        x.pull(1, 0);
        edge.answers("change 0 is held", x.house(1, 5), 0);
        edge.answers("by change 1", x.house(1, 6), 1);
        edge.answers("not in the other house", x.house(0, 5), NONE);
        x.pull(0, 1);
        edge.answers("by change 0", x.house(0, 6), 0);
    }

    // ---- promise 12

    private static void textOfAHouse() {
        for (int h : Edge.past(0, 1)) {
            edge.refuses("text(" + h + ", 0)", Edge::busy, x -> x.text(h, 0), UNKNOWN);
            edge.refuses("UNKNOWN ahead of OUTSIDE", Edge::busy, x -> x.text(h, -1), UNKNOWN);
        }
        edge.answers("text(0, 0)", Edge.made(Edge::busy).text(0, 0), 'x');
        edge.answers("text(1, 0)", Edge.made(Edge::busy).text(1, 0), 'q');
    }

    private static void textALetter() {
        for (int i : Edge.below(0)) {
            edge.refuses("text(0, " + i + ")", Edge::busy, x -> x.text(0, i), OUTSIDE);
        }
        PatchHouse x = Edge.made(Edge::busy);
        edge.answers("the last letter", x.text(0, 6), 'y');
        for (int i : new int[] {7, 8, 26, 28, 29, 32, 256, 65536, Integer.MAX_VALUE}) {
            edge.answers("not so many: " + i, x.text(0, i), NONE);
        }
        edge.answers("no letters", new PatchHouse().text(0, 0), NONE);
        edge.refuses("below 0 of no letters", y -> { }, y -> y.text(0, -1), OUTSIDE);
    }

    private static void textOfTheLongest() {
        PatchHouse x = Edge.made(Edge::longest);
        edge.answers("the first", x.text(0, 0), 'a');
        edge.answers("the 12th", x.text(0, 11), 'l');
        edge.answers("the 26th", x.text(0, 25), 'z');
        edge.answers("no 27th", x.text(0, 26), NONE);
    }

    // ---- promise 13

    private static void historyOfAHouse() {
        for (int h : Edge.past(0, 1)) {
            edge.refuses("history(" + h + ", 0, 0)", Edge::busy, x -> x.history(h, 0, 0), UNKNOWN);
            edge.refuses("UNKNOWN (house) ahead of OUTSIDE", Edge::busy, x -> x.history(h, 0, 5), UNKNOWN);
        }
    }

    private static void historyAPlace() {
        for (int i : Edge.past(0, 2)) {
            edge.refuses("history(0, " + i + ", 0)", Edge::busy, x -> x.history(0, i, 0), UNKNOWN);
            edge.refuses("UNKNOWN (place) ahead of OUTSIDE", Edge::busy, x -> x.history(0, i, -1), UNKNOWN);
        }
        edge.refuses("of no changes", x -> Edge.begin(x, "ab"), x -> x.history(1, 0, 0), UNKNOWN);
        PatchHouse x = new PatchHouse();
        Edge.puts(x, 1, 16, 0);
        edge.answers("place 0", x.history(1, 0, 0), 0);
        edge.answers("place 15", x.history(1, 15, 0), 15);
        edge.answers("place 16", x.history(1, 16, 0), UNKNOWN);
        x.takeOff(1, 0);
        edge.answers("place 14", x.history(1, 14, 0), 15);
        edge.answers("no place 15 any more", x.history(1, 15, 0), UNKNOWN);
    }

    private static void historyWhat() {
        for (int what : Edge.past(0, 4)) {
            edge.refuses("history(0, 0, " + what + ")", Edge::busy, x -> x.history(0, 0, what), OUTSIDE);
            edge.refuses("history(1, 3, " + what + ")", Edge::busy, x -> x.history(1, 3, what), OUTSIDE);
        }
        PatchHouse x = Edge.made(Edge::busy);
        int[][] want = {{1, 0, 6, 'y', 1}, {0, 0, 0, 'x', 1}, {4, 1, 4, 'd', 0}};
        for (int i = 0; i < want.length; i++) {
            for (int what = 0; what < 5; what++) {
                edge.answers("history(0, " + i + ", " + what + ")", x.history(0, i, what), want[i][what]);
            }
        }
    }

    private static void historyWithNoneBehind() {
        PatchHouse x = new PatchHouse();
        x.record(0, 0, 0, 'a');
        edge.answers("the only one: none behind", x.history(0, 0, 4), 0);
        x.record(0, 0, 0, 'b');
        edge.answers("one behind", x.history(0, 0, 4), 1);
        edge.answers("none behind the last", x.history(0, 1, 4), 0);
        x.takeOff(0, 1);
        edge.answers("none behind any more", x.history(0, 0, 4), 0);
        PatchHouse y = new PatchHouse();
        Edge.puts(y, 0, 16, 0);
        edge.answers("place 14 of 16", y.history(0, 14, 4), 1);
        edge.answers("place 15 of 16", y.history(0, 15, 4), 0);
        PatchHouse chain = new PatchHouse();
        Edge.chain(chain, 0, 3);
        edge.answers("put in, taken out", chain.history(0, 0, 4), 0);
        edge.answers("taken out, put in", chain.history(0, 1, 4), 0);
    }

    // ---- promise 14

    private static void changeOfAHouse() {
        for (int h : Edge.past(0, 1)) {
            edge.refuses("change(" + h + ", 1, 0)", Edge::busy, x -> x.change(h, 1, 0), UNKNOWN);
            edge.refuses("UNKNOWN (house) ahead of OUTSIDE", Edge::busy, x -> x.change(h, 1, 4), UNKNOWN);
        }
        edge.answers("change(0, 1, 0)", Edge.made(Edge::busy).change(0, 1, 0), 0);
        edge.answers("change(1, 6, 0)", Edge.made(Edge::busy).change(1, 6, 0), 3);
    }

    private static void changeAChange() {
        for (int change : Edge.past(0, 23)) {
            edge.refuses("change(0, " + change + ", 0)", Edge::busy, x -> x.change(0, change, 0), UNKNOWN);
            edge.refuses("UNKNOWN (change) ahead of OUTSIDE", Edge::busy, x -> x.change(0, change, 4), UNKNOWN);
        }
        edge.refuses("of the other house alone", Edge::busy, x -> x.change(0, 2, 0), UNKNOWN);
        edge.refuses("what is taken off", Edge::busy, x -> x.change(0, 5, 0), UNKNOWN);
        edge.refuses("the next number, not given yet", Edge::busy, x -> x.change(1, 7, 0), UNKNOWN);
        PatchHouse x = new PatchHouse();
        Edge.puts(x, 0, 12, 0);
        Edge.puts(x, 1, 12, 0);
        edge.answers("change 0", x.change(0, 0, 0), 0);
        edge.answers("change 23", x.change(1, 23, 0), 11);
    }

    private static void changeWhat() {
        for (int what : Edge.past(0, 3)) {
            edge.refuses("change(0, 0, " + what + ")", Edge::busy, x -> x.change(0, 0, what), OUTSIDE);
        }
        PatchHouse x = Edge.made(Edge::busy);
        int[] want = {1, 0, 0, 1};
        for (int what = 0; what < 4; what++) {
            edge.answers("change(0, 0, " + what + ")", x.change(0, 0, what), want[what]);
        }
    }

    private static void changeNeeds() {
        PatchHouse x = new PatchHouse();
        Edge.chain(x, 0, 16);
        edge.answers("the first needs none", x.change(0, 0, 1), 0);
        edge.answers("all the others need it", x.change(0, 0, 2), 65534);
        edge.answers("the last needs all the others", x.change(0, 15, 1), 32767);
        edge.answers("none needs it", x.change(0, 15, 2), 0);
        edge.answers("one between", x.change(0, 7, 1), 127);
        edge.answers("one between", x.change(0, 7, 2), 65280);
        PatchHouse beside = Edge.begun("abcdefgh");
        beside.record(1, 0, 2, 'x');
        beside.record(1, 0, 6, 'y');
        beside.record(1, 1, 4, 0);
        edge.answers("beside neither", beside.change(1, 2, 1), 0);
        beside.record(1, 1, 1, 0);
        edge.answers("just ahead of the first", beside.change(1, 3, 1), 1);
        beside.record(1, 1, 5, 0);
        edge.answers("just behind the second", beside.change(1, 4, 1), 2);
        edge.answers("nothing is needed by the third", beside.change(1, 2, 2), 0);
        edge.answers("the first is, by one", beside.change(1, 0, 2), 8);
        PatchHouse last = Edge.begun("ab");
        Edge.puts(last, 0, 15, 0);
        Edge.puts(last, 1, 7, 2);
        last.record(1, 0, 0, 'x');
        last.record(1, 1, 0, 0);
        edge.answers("bit 22", last.change(1, 23, 1), 1 << 22);
        edge.answers("bit 23", last.change(1, 22, 2), 1 << 23);
    }

    private static void changeToTheEnd() {
        PatchHouse x = new PatchHouse();
        Edge.chain(x, 0, 16);
        edge.answers("the last stands there", x.change(0, 15, 3), 1);
        edge.answers("the one ahead of it cannot", x.change(0, 14, 3), 0);
        edge.answers("the first cannot", x.change(0, 0, 3), 0);
        PatchHouse y = new PatchHouse();
        Edge.puts(y, 0, 16, 0);
        edge.answers("past 15", y.change(0, 0, 3), 1);
        y.takeOff(0, 15);
        y.record(0, 1, 14, 0);
        edge.answers("past 14, not the last", y.change(0, 0, 3), 0);
        edge.answers("the one beside that can't, either", y.change(0, 1, 3), 0);
        edge.answers("the next can", y.change(0, 2, 3), 1);
    }

    // ---- promise 15

    private static void roundSorts() {
        for (int sort : Edge.past(0, 1)) {
            edge.refuses("round(" + sort + ", 0, 0, 0)", Edge::busy, x -> x.round(sort, 0, 0, 0), OUTSIDE);
            edge.refuses("round(0, 0, " + sort + ", 0)", Edge::busy, x -> x.round(0, 0, sort, 0), OUTSIDE);
        }
    }

    private static void roundPlaces() {
        for (int i : Edge.past(0, 30)) {
            edge.refuses("round(0, " + i + ", 0, 0)", Edge::busy, x -> x.round(0, i, 0, 0), OUTSIDE);
            edge.refuses("round(1, 0, 1, " + i + ")", Edge::busy, x -> x.round(1, 0, 1, i), OUTSIDE);
        }
        PatchHouse x = new PatchHouse();
        int[][] want = {
            {0, 0, 0, 0, 1}, {0, 30, 0, 30, 3031}, {0, 0, 0, 30, 2900}, {0, 30, 0, 0, 31},
            {0, 0, 1, 0, NONE}, {0, 30, 1, 30, NONE}, {0, 0, 1, 30, 2900}, {0, 30, 1, 0, 29},
            {1, 0, 0, 0, NONE}, {1, 30, 0, 30, NONE}, {1, 0, 0, 30, 3100}, {1, 30, 0, 0, 31},
            {1, 0, 1, 0, 100}, {1, 30, 1, 30, 3130}, {1, 0, 1, 30, 3100}, {1, 30, 1, 0, 29},
        };
        for (int[] w : want) {
            edge.answers("round(" + w[0] + ", " + w[1] + ", " + w[2] + ", " + w[3] + ")", x.round(w[0], w[1], w[2], w[3]), w[4]);
        }
    }

    /** The rules once more, with the differences of the places written out: j less i from -3 to 3. */
    private static void roundEachRule() {
        int no = 99;
        int[][] k = {{-3, -2, -1, 0, 0, 1, 2}, {-3, -2, no, no, no, 1, 2}, {-3, -2, -1, no, 2, 3, 4}, {-3, -2, -1, 1, 2, 3, 4}};
        int[][] m = {{1, 1, 1, 1, 0, 0, 0}, {-1, -1, no, no, no, 0, 0}, {1, 1, 1, no, 0, 0, 0}, {-1, -1, -1, 0, 0, 0, 0}};
        PatchHouse x = new PatchHouse();
        for (int pair = 0; pair < 4; pair++) {
            for (int i = 0; i <= 30; i++) {
                for (int d = -3; d <= 3; d++) {
                    int j = i + d;
                    if (j < 0 || j > 30) {
                        continue;
                    }
                    int want = k[pair][d + 3] == no ? NONE : 100 * (i + k[pair][d + 3]) + i + m[pair][d + 3];
                    edge.answers("sorts " + pair + ": " + i + ", " + j, x.round(pair / 2, i, pair % 2, j), want);
                }
            }
        }
    }

    /** "So that the text behind both is the same": for all places of a text whose letters are all different. */
    private static void roundLeavesTheText() {
        PatchHouse x = new PatchHouse();
        String text = "abcdefghijklmnopqrstuvwxyzABCDE";
        for (int pair = 0; pair < 4; pair++) {
            int sort = pair / 2, other = pair % 2;
            for (int i = 0; i < text.length(); i++) {
                for (int j = 0; j < text.length() - 1; j++) {
                    int round = x.round(sort, i, other, j);
                    if (round != NONE) {
                        String ways = by(by(text, sort, i, '1'), other, j, '2');
                        edge.same("sorts " + pair + ": " + i + ", " + j, by(by(text, other, round / 100, '2'), sort, round % 100, '1'), ways);
                    }
                }
            }
        }
    }

    private static String by(String text, int sort, int place, char letter) {
        StringBuilder all = new StringBuilder(text);
        if (sort == 0) {
            all.insert(place, letter);
        } else {
            all.deleteCharAt(place);
        }
        return all.toString();
    }
}
