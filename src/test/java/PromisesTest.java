/** For each promise of the document what it asks for, worked out by hand: the ordinary, the edges, the refusals. */
public final class PromisesTest {
    private static final int NONE = -1, UNKNOWN = -1000000001, OUTSIDE = -1000000002, NOT = -1000000003,
        FULL = -1000000004, NULL = -1000000011, CAST = -1000000012;
    private static final Due due = new Due();

    private PromisesTest() {
    }

    public static void main(String[] args) {
        newObject();
        anew();
        begin();
        record();
        recordFull();
        recordPastTheMost();
        takeOff();
        turn();
        pullAlone();
        pullWithNeeds();
        pullInNewOrder();
        pullHeld();
        pullNot();
        pullFull();
        drift();
        undo();
        told();
        house();
        lawful();
        text();
        history();
        change();
        round();
        shelve();
        shelveText();
        empty();
        shelved();
        letter();
        isText();
        oppose();
        opposeFull();
        images();
        due.end("PromisesTest");
    }

    private static PatchHouse begun(String letters) {
        PatchHouse x = new PatchHouse();
        for (int i = 0; i < letters.length(); i++) {
            x.begin(letters.charAt(i));
        }
        return x;
    }

    private static void reads(PatchHouse x, int house, String want) {
        String got = Sight.text(x, house);
        due.is("text of house " + house + " '" + got + "', due '" + want + "'", got.equals(want));
    }

    private static void stands(PatchHouse x, int house, String want) {
        String got = Sight.history(x, house);
        due.is("history of house " + house + " '" + got + "', due '" + want + "'", got.equals(want));
    }

    private static void puts(PatchHouse x, int house, int times, int place) {
        for (int i = 0; i < times; i++) {
            due.is("put " + i, x.record(house, 0, place, 'z') >= 0);
        }
    }

    // ---- promise 1

    private static void newObject() {
        PatchHouse x = new PatchHouse();
        due.is("new told(0)", x.told(0), 0);
        due.is("new told(1)", x.told(1), 0);
        due.is("new told(2)", x.told(2), 1);
        due.is("new told(3)", x.told(3), 0);
        due.is("new told(4)", x.told(4), 0);
        int[] want = {0, 0, 0, 0, 1, NONE, NONE};
        for (int h = 0; h < 2; h++) {
            for (int what = 0; what < want.length; what++) {
                due.is("new house(" + h + ", " + what + ")", x.house(h, what), want[what]);
            }
        }
        for (int s = 0; s < 4; s++) {
            due.is("new empty", x.empty(s), 0);
        }
        due.is("new goBack", x.goBack(0), NOT);
        due.is("new goBack", x.goBack(1), NOT);
        due.is("new undo", x.undo(), NOT);
    }

    // ---- promise 2

    private static void anew() {
        PatchHouse x = begun("ab");
        x.record(0, 0, 0, 'x');
        x.record(1, 0, 0, 'y');
        due.is("held ahead of anew", x.pull(0, 1), 0);
        x.shelve(0, 0, 0);
        x.shelveText(1, 1);
        x.keep(0);
        x.keep(1);
        x.record(0, 0, 0, 'z');
        due.is("anew tells the numbers", x.anew(), 3);
        due.is("anew: beginning", x.told(0), 0);
        due.is("anew: numbers", x.told(1), 0);
        due.is("anew: undo", x.told(3), 0);
        due.is("anew: undo", x.undo(), NOT);
        due.is("anew: changes", x.house(0, 1) + x.house(1, 1), 0);
        due.is("anew: held", x.house(0, 5), NONE);
        due.is("anew: clash", x.house(0, 6), NONE);
        due.is("anew: image 0", x.goBack(0), NOT);
        due.is("anew: image 1", x.goBack(1), NOT);
        due.is("anew: shelf stays", x.shelved(0, 3), 'x');
        due.is("anew: shelf stays", x.letter(1, 0), 'y');
        due.is("anew: begin again", x.begin('q'), 1);
        due.is("anew: numbers from 0", x.record(1, 1, 0, 0), 0);
        due.is("anew again", x.anew(), 1);
        due.is("anew of nothing", x.anew(), 0);
    }

    // ---- promise 3

    private static void begin() {
        PatchHouse x = new PatchHouse();
        due.is("begin 96", x.begin(96), OUTSIDE);
        due.is("begin 123", x.begin(123), OUTSIDE);
        due.is("begin 97", x.begin(97), 1);
        for (int i = 2; i <= 12; i++) {
            due.is("begin 122", x.begin(122), i);
        }
        due.is("begin: 13", x.begin(97), FULL);
        due.is("begin: OUTSIDE ahead of FULL", x.begin(0), OUTSIDE);
        reads(x, 0, "azzzzzzzzzzz");
        reads(x, 1, "azzzzzzzzzzz");
        due.is("begin: nothing to undo", x.undo(), NOT);
        x.record(0, 0, 0, 'b');
        due.is("begin: NOT ahead of FULL", x.begin(97), NOT);
        due.is("begin: OUTSIDE ahead of NOT", x.begin(-5), OUTSIDE);
        PatchHouse y = begun("a");
        y.record(0, 0, 0, 'b');
        y.undo();
        due.is("begin: there was a change, though undone", y.begin(97), NOT);
        due.is("begin: refused, nothing changes", y.told(0), 1);
    }

    // ---- promise 4

    private static void record() {
        PatchHouse x = begun("abc");
        due.is("record house -1", x.record(-1, 5, -1, 0), UNKNOWN);
        due.is("record house 2", x.record(2, 0, 0, 97), UNKNOWN);
        due.is("record sort 2", x.record(0, 2, 0, 97), OUTSIDE);
        due.is("record sort -1", x.record(0, -1, 0, 97), OUTSIDE);
        due.is("record letter 96", x.record(0, 0, 0, 96), OUTSIDE);
        due.is("record letter 123", x.record(0, 0, 0, 123), OUTSIDE);
        due.is("record place -1", x.record(0, 0, -1, 97), OUTSIDE);
        due.is("record place 4", x.record(0, 0, 4, 97), OUTSIDE);
        due.is("take place -1", x.record(0, 1, -1, 97), OUTSIDE);
        due.is("take place 3", x.record(0, 1, 3, 97), OUTSIDE);
        due.is("refused: no number", x.told(1), 0);
        due.is("refused: nothing to undo", x.told(3), 0);
        due.is("put at the end", x.record(0, 0, 3, 'z'), 0);
        due.is("put ahead of all", x.record(0, 0, 0, 'y'), 1);
        reads(x, 0, "yabcz");
        due.is("take the last, letter does not matter", x.record(0, 1, 4, -77), 2);
        due.is("the letter that it took", x.history(0, 2, 3), 'z');
        due.is("the other house, next number", x.record(1, 1, 0, 'q'), 3);
        due.is("its letter", x.history(1, 0, 3), 'a');
        reads(x, 0, "yabc");
        reads(x, 1, "bc");
        PatchHouse y = new PatchHouse();
        due.is("nothing to take", y.record(0, 1, 0, 97), OUTSIDE);
    }

    private static void recordFull() {
        PatchHouse numbers = new PatchHouse();
        puts(numbers, 0, 12, 0);
        puts(numbers, 1, 12, 0);
        due.is("24 numbers", numbers.record(0, 0, 0, 97), FULL);
        due.is("24 numbers, take", numbers.record(1, 1, 0, 0), FULL);
        due.is("OUTSIDE ahead of FULL", numbers.record(1, 1, 12, 0), OUTSIDE);
        numbers.undo();
        due.is("numbers are not used again", numbers.record(1, 0, 0, 97), FULL);
        PatchHouse changes = new PatchHouse();
        puts(changes, 0, 16, 0);
        due.is("16 changes", changes.record(0, 0, 0, 97), FULL);
        due.is("16 changes, take", changes.record(0, 1, 0, 0), FULL);
        due.is("the other house has room", changes.record(1, 0, 0, 97), 16);
        PatchHouse letters = begun("abcdefghijkl");
        puts(letters, 0, 12, 12);
        due.is("24 letters", letters.record(0, 0, 0, 97), FULL);
        due.is("refused: nothing changes", letters.told(1), 12);
        due.is("24 letters, take", letters.record(0, 1, 0, 0), 12);
        due.is("23 letters", letters.record(0, 0, 0, 97), 13);
    }

    private static void recordPastTheMost() {
        PatchHouse x = begun("abcdefghijkl");
        x.record(0, 1, 0, 0);
        puts(x, 0, 13, 11);
        due.is("24 letters", x.house(0, 0), 24);
        due.is("taken off", x.takeOff(0, 0), 13);
        due.is("more, by what is taken off", x.house(0, 0), 25);
        due.is("no more is put in", x.record(0, 0, 0, 97), FULL);
        due.is("a take needs no room", x.record(0, 1, 24, 0), 14);
        due.is("24 letters again", x.house(0, 0), 24);
    }

    // ---- promise 5

    private static void takeOff() {
        PatchHouse x = begun("x");
        x.record(0, 0, 1, 'a');
        x.record(0, 0, 1, 'b');
        x.record(0, 1, 0, 0);
        reads(x, 0, "ba");
        due.is("takeOff house 2", x.takeOff(2, 0), UNKNOWN);
        due.is("takeOff house -1", x.takeOff(-1, 0), UNKNOWN);
        due.is("takeOff of the other house", x.takeOff(1, 0), UNKNOWN);
        due.is("takeOff change 3", x.takeOff(0, 3), UNKNOWN);
        due.is("takeOff change -1", x.takeOff(0, -1), UNKNOWN);
        due.is("takeOff of what is needed", x.takeOff(0, 1), NOT);
        stands(x, 0, "0+1 1+1 2-0");
        due.is("refused: no undo", x.told(3), 3);
        due.is("takeOff past both", x.takeOff(0, 0), 2);
        stands(x, 0, "1+1 2-0");
        reads(x, 0, "b");
        due.is("takeOff the last", x.takeOff(0, 2), 1);
        due.is("takeOff the only one", x.takeOff(0, 1), 0);
        reads(x, 0, "x");
        due.is("takeOff what is gone", x.takeOff(0, 1), UNKNOWN);
        due.is("its number is not used again", x.record(0, 0, 0, 'c'), 3);
    }

    // ---- promise 6

    private static void turn() {
        PatchHouse x = begun("abcdef");
        x.record(0, 0, 2, 'x');
        x.record(0, 0, 2, 'y');
        due.is("turn house 2", x.turn(2, 0), UNKNOWN);
        due.is("turn place -1", x.turn(0, -1), UNKNOWN);
        due.is("turn place 1: none behind", x.turn(0, 1), UNKNOWN);
        due.is("turn place 2147483647", x.turn(0, 2147483647), UNKNOWN);
        due.is("turn of no changes", x.turn(1, 0), UNKNOWN);
        due.is("turn put, put", x.turn(0, 0), 1);
        stands(x, 0, "1+2 0+3");
        due.is("turn again", x.turn(0, 0), 0);
        stands(x, 0, "0+2 1+2");
        x.record(0, 1, 7, 0);
        due.is("turn put, take", x.turn(0, 1), 2);
        stands(x, 0, "0+2 2-6 1+2");
        due.is("turn put, take", x.turn(0, 0), 2);
        stands(x, 0, "2-5 0+2 1+2");
        due.is("turn take, put", x.turn(0, 0), 0);
        stands(x, 0, "0+2 2-6 1+2");
        reads(x, 0, "abyxcde");
        x.record(0, 1, 3, 0);
        due.is("turn NOT", x.turn(0, 2), NOT);
        due.is("refused: nothing changes", x.told(3), 8);
        stands(x, 0, "0+2 2-6 1+2 3-3");
        PatchHouse y = begun("abcd");
        y.record(1, 1, 1, 0);
        y.record(1, 1, 1, 0);
        due.is("turn take, take", y.turn(1, 0), 1);
        stands(y, 1, "1-2 0-1");
        reads(y, 1, "ad");
    }

    // ---- promise 7

    private static void pullAlone() {
        PatchHouse x = begun("abc");
        x.record(0, 0, 1, 'x');
        due.is("pull house 2", x.pull(2, 0), UNKNOWN);
        due.is("pull house -1", x.pull(-1, 0), UNKNOWN);
        due.is("pull what the other one has not", x.pull(0, 0), UNKNOWN);
        due.is("pull no such number", x.pull(1, 1), UNKNOWN);
        due.is("pull -1", x.pull(1, -1), UNKNOWN);
        due.is("refused: no undo", x.told(3), 1);
        due.is("pull", x.pull(1, 0), 1);
        reads(x, 1, "axbc");
        due.is("letter comes along", x.history(1, 0, 3), 'x');
        due.is("alike", x.told(2), 1);
        due.is("pull what both have", x.pull(1, 0), NOT);
        due.is("pull what both have", x.pull(0, 0), NOT);
        due.is("held none", x.house(1, 5), NONE);
    }

    private static void pullWithNeeds() {
        PatchHouse x = begun("ab");
        x.record(0, 0, 0, 'x');
        x.record(1, 0, 2, 'y');
        x.record(1, 1, 1, 0);
        due.is("pull with what it needs", x.pull(0, 2), 2);
        stands(x, 0, "0+0 1+3 2-2");
        reads(x, 0, "xay");
        due.is("the need is had now", x.pull(0, 1), NOT);
        PatchHouse y = begun("abc");
        y.record(1, 0, 3, 'x');
        y.record(1, 0, 0, 'y');
        y.record(1, 1, 4, 0);
        due.is("what is not needed stays away", y.pull(0, 2), 2);
        stands(y, 0, "0+3 2-3");
        stands(y, 1, "0+3 1+0 2-4");
        reads(y, 0, "abc");
    }

    private static void pullInNewOrder() {
        PatchHouse x = begun("abcdef");
        x.record(0, 0, 0, 'x');
        x.record(0, 0, 7, 'y');
        due.is("the second alone", x.pull(1, 1), 1);
        stands(x, 1, "1+6");
        x.record(1, 0, 3, 'z');
        due.is("past what is alone", x.pull(0, 2), 1);
        stands(x, 0, "1+6 0+0 2+4");
        stands(x, 1, "1+6 2+3");
        reads(x, 0, "xabczdefy");
    }

    private static void pullHeld() {
        PatchHouse x = begun("abcdef");
        x.record(0, 0, 0, 'x');
        x.record(0, 0, 7, 'y');
        x.pull(1, 1);
        x.record(1, 0, 0, 'q');
        x.record(1, 1, 0, 0);
        due.is("undo kept", x.told(3), 5);
        due.is("held", x.pull(0, 2), 0);
        due.is("held which", x.house(0, 5), 2);
        due.is("clashes with", x.house(0, 6), 0);
        due.is("of that house alone", x.house(1, 5), NONE);
        stands(x, 0, "0+0 1+7");
        due.is("held can be undone", x.told(3), 6);
        due.is("held by what it needs", x.pull(0, 3), 0);
        due.is("held is what was asked for", x.house(0, 5), 3);
        due.is("undo of held", x.undo(), 6);
        due.is("held as ahead of it", x.house(0, 5), 2);
        x.undo();
        due.is("held as ahead of it", x.house(0, 5), NONE);
        due.is("clash as ahead of it", x.house(0, 6), NONE);
        PatchHouse y = begun("abc");
        y.record(0, 1, 1, 0);
        y.record(0, 0, 2, 'v');
        y.record(1, 1, 1, 0);
        due.is("two take the same", y.pull(1, 0), 0);
        due.is("clash", y.house(1, 6), 2);
        due.is("another can come, the held one stays told", y.pull(1, 1), 1);
        due.is("held stays", y.house(1, 5), 0);
    }

    private static void pullNot() {
        PatchHouse x = begun("ab");
        x.record(1, 1, 1, 0);
        x.record(0, 0, 2, 'w');
        due.is("pull past what was taken", x.pull(1, 1), 1);
        stands(x, 1, "0-1 1+1");
        due.is("the other one's can't be brought to the front", x.pull(0, 0), NOT);
        due.is("refused: held none", x.house(0, 5), NONE);
        due.is("refused: no undo", x.told(3), 3);
        x.record(0, 0, 0, 'q');
        due.is("its own can't be brought to the front", x.pull(1, 2), NOT);
        stands(x, 1, "0-1 1+1");
    }

    private static void pullFull() {
        PatchHouse changes = new PatchHouse();
        puts(changes, 0, 15, 0);
        changes.record(1, 0, 0, 'a');
        changes.record(1, 1, 0, 0);
        due.is("15 and 2 that would clash", changes.pull(0, 16), FULL);
        due.is("15 and 1 that clashes", changes.pull(0, 15), 0);
        puts(changes, 0, 1, 0);
        due.is("16 and 1", changes.pull(0, 15), FULL);
        PatchHouse fits = begun("ab");
        puts(fits, 0, 15, 0);
        fits.record(1, 0, 1, 'c');
        due.is("15 and 1", fits.pull(0, 15), 1);
        due.is("16 changes, 18 letters", fits.house(0, 1) * 100 + fits.house(0, 0), 1618);
        PatchHouse letters = begun("abcdefghijkl");
        puts(letters, 0, 12, 12);
        letters.record(1, 0, 0, 'x');
        letters.record(1, 1, 1, 0);
        letters.record(1, 1, 8, 0);
        due.is("25 letters", letters.pull(0, 12), FULL);
        due.is("25 letters by the way", letters.pull(0, 13), FULL);
        due.is("refused: no undo more", letters.told(3), 8);
        due.is("23 letters", letters.pull(0, 14), 1);
        due.is("24 letters", letters.pull(0, 12), 1);
        reads(letters, 0, "xabcdefghjkl" + "zzzzzzzzzzzz");
        PatchHouse behind = begun("abcdefghijkl");
        puts(behind, 0, 11, 12);
        puts(behind, 1, 2, 0);
        due.is("24 letters, what does not come does not count", behind.pull(0, 11), 1);
    }

    // ---- promise 8: the lots of seed 1 are 16807, 282475249, 1622650073, 984943658, 1144108930,
    // 470211272, 101027544, 1457850878, 1458777923, 2007237709, 823564440, 1115438165

    private static void drift() {
        PatchHouse x = new PatchHouse();
        due.is("drift n 0", x.drift(0, 1), OUTSIDE);
        due.is("drift n 21", x.drift(21, 1), OUTSIDE);
        due.is("drift seed 0", x.drift(1, 0), OUTSIDE);
        due.is("drift seed 1000000", x.drift(1, 1000000), OUTSIDE);
        due.is("refused: no undo", x.told(3), 0);
        due.is("drift one", x.drift(1, 1), 1);
        reads(x, 1, "k");
        due.is("undone as one", x.undo(), 0);
        x.anew();
        due.is("drift three, two of them with nothing to take", x.drift(3, 1), 1);
        reads(x, 1, "k");
        x.anew();
        due.is("drift four, two of them with nothing to take", x.drift(4, 1), 2);
        reads(x, 0, "");
        reads(x, 1, "xk");
        due.is("one to be undone", x.told(3), 1);
        due.is("undone", x.undo(), 0);
        reads(x, 1, "");
        PatchHouse takes = begun("abcde");
        due.is("drift two", takes.drift(2, 1), 2);
        reads(takes, 0, "abcd");
        reads(takes, 1, "abcdek");
        stands(takes, 0, "1-4");
        PatchHouse full = new PatchHouse();
        puts(full, 0, 12, 0);
        puts(full, 1, 12, 0);
        full.keep(0);
        due.is("drift with no numbers left", full.drift(20, 999999), 0);
        due.is("drift can be undone all the same", full.told(3), 1);
        PatchHouse oneHouse = new PatchHouse();
        puts(oneHouse, 1, 16, 0);
        due.is("drift where one house has no room", oneHouse.drift(4, 1), 0);
    }

    // ---- promise 9

    private static void undo() {
        PatchHouse x = begun("ab");
        due.is("undo nothing", x.undo(), NOT);
        puts(x, 0, 10, 0);
        due.is("8 at most", x.told(3), 8);
        x.record(0, 0, 99, 'a');
        x.takeOff(0, 23);
        x.turn(1, 0);
        x.pull(0, 0);
        x.oppose(0, 0);
        due.is("refusals are not kept", x.told(3), 8);
        for (int k = 7; k >= 0; k--) {
            due.is("undo", x.undo(), k);
        }
        due.is("the oldest are lost", x.house(0, 1), 2);
        due.is("undo no more", x.undo(), NOT);
        due.is("numbers go on", x.record(0, 0, 0, 'c'), 10);
        x.takeOff(0, 0);
        stands(x, 0, "1+0 10+0");
        x.undo();
        stands(x, 0, "0+0 1+0 10+0");
        x.turn(0, 0);
        stands(x, 0, "1+0 0+1 10+0");
        x.undo();
        stands(x, 0, "0+0 1+0 10+0");
        x.pull(1, 10);
        due.is("pulled", x.house(1, 1), 1);
        x.undo();
        due.is("pull undone", x.house(1, 1), 0);
        x.shelve(0, 0, 2);
        due.is("oppose", x.oppose(0, 0), 11);
        x.undo();
        stands(x, 0, "0+0 1+0 10+0");
        due.is("the shelf stays", x.shelved(0, 0), 10);
    }

    // ---- promise 10

    private static void told() {
        PatchHouse x = begun("ab");
        due.is("told -1", x.told(-1), OUTSIDE);
        due.is("told 5", x.told(5), OUTSIDE);
        x.record(0, 0, 0, 'c');
        x.record(1, 0, 0, 'c');
        due.is("letters of the beginning", x.told(0), 2);
        due.is("numbers", x.told(1), 2);
        due.is("alike by other changes", x.told(2), 1);
        due.is("can be undone", x.told(3), 2);
        due.is("both have none", x.told(4), 0);
        x.record(0, 0, 3, 'd');
        due.is("not alike", x.told(2), 0);
        x.pull(1, 2);
        due.is("alike again", x.told(2), 1);
        due.is("both have", x.told(4), 4);
        x.undo();
        due.is("numbers after undo", x.told(1), 3);
        x.record(1, 0, 0, 'd');
        due.is("as long, other letters", x.told(2), 0);
    }

    // ---- promise 11

    private static void house() {
        PatchHouse x = begun("ab");
        due.is("house 2", x.house(2, 9), UNKNOWN);
        due.is("house -1", x.house(-1, 0), UNKNOWN);
        due.is("house what -1", x.house(0, -1), OUTSIDE);
        due.is("house what 7", x.house(1, 7), OUTSIDE);
        x.record(0, 0, 2, 'c');
        x.record(1, 1, 0, 0);
        x.record(1, 0, 0, 'd');
        x.pull(1, 0);
        due.is("letters", x.house(0, 0), 3);
        due.is("letters", x.house(1, 0), 3);
        due.is("changes", x.house(0, 1), 1);
        due.is("changes", x.house(1, 1), 3);
        due.is("set", x.house(0, 2), 1);
        due.is("set", x.house(1, 2), 7);
        due.is("only", x.house(0, 3), 0);
        due.is("only", x.house(1, 3), 6);
        due.is("held", x.house(1, 5), NONE);
        due.is("clash", x.house(1, 6), NONE);
    }

    private static void lawful() {
        PatchHouse x = begun("x");
        due.is("of none", x.house(0, 4), 1);
        x.record(0, 0, 1, 'a');
        due.is("of one", x.house(0, 4), 1);
        x.record(0, 0, 1, 'b');
        due.is("of two", x.house(0, 4), 2);
        x.record(0, 1, 0, 0);
        due.is("a b x, b a x, b x a", x.house(0, 4), 3);
        stands(x, 0, "0+1 1+1 2-0");
        PatchHouse y = new PatchHouse();
        int[] want = {1, 2, 6, 24, 120, 720, NONE};
        for (int i = 0; i < want.length; i++) {
            y.record(1, 0, 0, 'a');
            due.is("free ones", y.house(1, 4), want[i]);
        }
        y.takeOff(1, 0);
        due.is("six again", y.house(1, 4), 720);
        due.is("asked, nothing changes", y.history(1, 0, 0), 1);
        PatchHouse free = begun("abcd");
        free.record(0, 0, 4, 'x');
        free.record(0, 1, 0, 0);
        free.record(0, 1, 3, 0);
        due.is("0 1 2, 1 0 2, 0 2 1", free.house(0, 4), 3);
        PatchHouse z = new PatchHouse();
        z.record(0, 0, 0, 'a');
        z.record(0, 1, 0, 'a');
        z.record(0, 0, 0, 'a');
        due.is("none can be turned", z.house(0, 4), 1);
    }

    // ---- promise 12

    private static void text() {
        PatchHouse x = begun("ab");
        due.is("text house 2", x.text(2, -1), UNKNOWN);
        due.is("text house -1", x.text(-1, 0), UNKNOWN);
        due.is("text -1", x.text(0, -1), OUTSIDE);
        due.is("text 1", x.text(0, 1), 'b');
        due.is("text 2", x.text(0, 2), NONE);
        due.is("text 2147483647", x.text(0, 2147483647), NONE);
        x.record(1, 0, 1, 'z');
        x.record(1, 1, 0, 0);
        due.is("text 0", x.text(1, 0), 'z');
        due.is("text 1", x.text(1, 1), 'b');
        due.is("text 2", x.text(1, 2), NONE);
    }

    // ---- promise 13

    private static void history() {
        PatchHouse x = begun("abc");
        x.record(1, 0, 3, 'z');
        x.record(1, 1, 1, 0);
        x.record(1, 1, 2, 0);
        due.is("history house 2", x.history(2, 0, 9), UNKNOWN);
        due.is("history place 3", x.history(1, 3, 0), UNKNOWN);
        due.is("history place -1", x.history(1, -1, 0), UNKNOWN);
        due.is("history of none", x.history(0, 0, 0), UNKNOWN);
        due.is("history what -1", x.history(1, 0, -1), OUTSIDE);
        due.is("history what 5", x.history(1, 0, 5), OUTSIDE);
        int[][] want = {{0, 0, 3, 'z', 1}, {1, 1, 1, 'b', 1}, {2, 1, 2, 'z', 0}};
        for (int i = 0; i < want.length; i++) {
            for (int what = 0; what < 5; what++) {
                due.is("history(1, " + i + ", " + what + ")", x.history(1, i, what), want[i][what]);
            }
        }
        x.turn(1, 1);
        stands(x, 1, "0+3 2-3 1-1");
        due.is("can't be turned", x.history(1, 0, 4), 0);
    }

    // ---- promise 14

    private static void change() {
        PatchHouse x = begun("x");
        x.record(0, 0, 1, 'a');
        x.record(0, 0, 1, 'b');
        x.record(0, 1, 0, 0);
        due.is("change house 2", x.change(2, 0, 9), UNKNOWN);
        due.is("change 3", x.change(0, 3, 0), UNKNOWN);
        due.is("change -1", x.change(0, -1, 0), UNKNOWN);
        due.is("change of the other house", x.change(1, 0, 0), UNKNOWN);
        due.is("change what -1", x.change(0, 0, -1), OUTSIDE);
        due.is("change what 4", x.change(0, 0, 4), OUTSIDE);
        int[][] want = {{0, 0, 0, 1}, {1, 0, 4, 0}, {2, 2, 0, 1}};
        for (int c = 0; c < want.length; c++) {
            for (int what = 0; what < 4; what++) {
                due.is("change(0, " + c + ", " + what + ")", x.change(0, c, what), want[c][what]);
            }
        }
        x.turn(0, 0);
        due.is("place after turn", x.change(0, 0, 0), 1);
        PatchHouse y = new PatchHouse();
        y.record(1, 0, 0, 'a');
        y.record(1, 0, 1, 'b');
        y.record(1, 1, 1, 0);
        due.is("needs both: one by the other", y.change(1, 2, 1), 3);
        due.is("needed by", y.change(1, 0, 2), 4);
        due.is("not to the end", y.change(1, 0, 3), 0);
        stands(y, 1, "0+0 1+1 2-1");
    }

    // ---- promise 15

    private static void round() {
        PatchHouse x = new PatchHouse();
        int[][] want = {
            {0, 5, 0, 4, 406}, {0, 5, 0, 5, 506}, {0, 5, 0, 6, 505}, {0, 5, 0, 7, 605}, {0, 0, 0, 0, 1},
            {0, 5, 1, 3, 304}, {0, 5, 1, 4, NONE}, {0, 5, 1, 5, NONE}, {0, 5, 1, 6, NONE}, {0, 5, 1, 7, 605},
            {0, 0, 1, 0, NONE}, {0, 0, 1, 1, NONE}, {0, 0, 1, 2, 100}, {0, 1, 1, 0, NONE}, {0, 2, 1, 0, 1},
            {1, 5, 0, 4, 406}, {1, 5, 0, 5, NONE}, {1, 5, 0, 6, 705}, {1, 0, 0, 0, NONE}, {1, 0, 0, 30, 3100},
            {1, 5, 1, 4, 404}, {1, 5, 1, 5, 605}, {1, 5, 1, 6, 705}, {1, 30, 1, 0, 29}, {0, 30, 0, 30, 3031},
            {-1, 0, 0, 0, OUTSIDE}, {2, 0, 0, 0, OUTSIDE}, {0, 0, -1, 0, OUTSIDE}, {0, 0, 2, 0, OUTSIDE},
            {0, -1, 0, 0, OUTSIDE}, {0, 31, 0, 0, OUTSIDE}, {0, 0, 0, -1, OUTSIDE}, {0, 0, 0, 31, OUTSIDE},
        };
        for (int[] w : want) {
            due.is("round(" + w[0] + ", " + w[1] + ", " + w[2] + ", " + w[3] + ")", x.round(w[0], w[1], w[2], w[3]), w[4]);
        }
    }

    // ---- promises 16 to 22

    private static void shelve() {
        PatchHouse x = begun("ab");
        x.record(1, 1, 1, 0);
        due.is("shelve 4", x.shelve(4, 1, 0), UNKNOWN);
        due.is("shelve -1", x.shelve(-1, 1, 0), UNKNOWN);
        due.is("shelve house 2", x.shelve(0, 2, 0), UNKNOWN);
        due.is("shelve place 1", x.shelve(0, 1, 1), UNKNOWN);
        due.is("shelve place -1", x.shelve(0, 1, -1), UNKNOWN);
        due.is("shelve of none", x.shelve(0, 0, 0), UNKNOWN);
        due.is("refused: empty", x.empty(0), 0);
        due.is("shelve", x.shelve(3, 1, 0), 0);
        x.record(1, 0, 0, 'q');
        x.turn(1, 0);
        due.is("as it stood", x.shelved(3, 2), 1);
        due.is("over a change", x.shelve(3, 1, 0), 1);
        due.is("sort", x.shelved(3, 1), 0);
        due.is("over a text", x.shelveText(3, 1), 2);
        due.is("and over that", x.shelve(3, 1, 1), 0);
        due.is("place", x.shelved(3, 2), 2);
    }

    private static void shelveText() {
        PatchHouse x = begun("ab");
        due.is("shelveText 4", x.shelveText(4, 0), UNKNOWN);
        due.is("shelveText -1", x.shelveText(-1, 0), UNKNOWN);
        due.is("shelveText house 2", x.shelveText(0, 2), UNKNOWN);
        due.is("shelveText", x.shelveText(0, 1), 2);
        x.record(1, 1, 0, 0);
        due.is("as it was", x.letter(0, 0), 'a');
        x.record(1, 1, 0, 0);
        due.is("shelveText of none", x.shelveText(1, 1), 0);
        due.is("is a text all the same", x.empty(1), 2);
    }

    private static void empty() {
        PatchHouse x = begun("ab");
        due.is("empty 4", x.empty(4), UNKNOWN);
        due.is("empty -1", x.empty(-1), UNKNOWN);
        x.record(0, 0, 0, 'c');
        x.shelve(0, 0, 0);
        x.shelveText(1, 0);
        due.is("empty of a change", x.empty(0), 1);
        due.is("empty of a text", x.empty(1), 2);
        due.is("empty of nothing", x.empty(0), 0);
        due.is("empty of nothing", x.empty(1), 0);
        due.is("NULL now", x.shelved(0, 0), NULL);
        due.is("NULL now", x.letter(1, 0), NULL);
    }

    private static void shelved() {
        PatchHouse x = begun("ab");
        x.record(0, 0, 0, 'c');
        x.record(0, 1, 2, 0);
        due.is("shelved 4", x.shelved(4, 9), UNKNOWN);
        due.is("shelved -1", x.shelved(-1, 0), UNKNOWN);
        due.is("OUTSIDE ahead of NULL", x.shelved(0, 4), OUTSIDE);
        due.is("shelved what -1", x.shelved(0, -1), OUTSIDE);
        due.is("NULL", x.shelved(0, 3), NULL);
        x.shelveText(0, 0);
        due.is("OUTSIDE ahead of CAST", x.shelved(0, 4), OUTSIDE);
        due.is("CAST", x.shelved(0, 0), CAST);
        x.shelve(0, 0, 1);
        int[] want = {1, 1, 2, 'b'};
        for (int what = 0; what < 4; what++) {
            due.is("shelved(0, " + what + ")", x.shelved(0, what), want[what]);
        }
    }

    private static void letter() {
        PatchHouse x = begun("ab");
        x.record(0, 0, 0, 'c');
        due.is("letter 4", x.letter(4, -1), UNKNOWN);
        due.is("letter -1", x.letter(-1, 0), UNKNOWN);
        due.is("OUTSIDE ahead of NULL", x.letter(0, -1), OUTSIDE);
        due.is("NULL", x.letter(0, 0), NULL);
        x.shelve(0, 0, 0);
        due.is("OUTSIDE ahead of CAST", x.letter(0, -1), OUTSIDE);
        due.is("CAST", x.letter(0, 0), CAST);
        x.shelveText(0, 0);
        due.is("letter 0", x.letter(0, 0), 'c');
        due.is("letter 2", x.letter(0, 2), 'b');
        due.is("letter 3", x.letter(0, 3), NONE);
        due.is("letter 2147483647", x.letter(0, 2147483647), NONE);
    }

    private static void isText() {
        PatchHouse x = begun("ab");
        due.is("isText 4", x.isText(4, 0), UNKNOWN);
        due.is("isText -1", x.isText(-1, 0), UNKNOWN);
        due.is("UNKNOWN ahead of NULL", x.isText(0, 2), UNKNOWN);
        due.is("NULL", x.isText(0, 0), NULL);
        x.record(0, 0, 0, 'c');
        x.shelve(0, 0, 0);
        due.is("UNKNOWN ahead of CAST", x.isText(0, -1), UNKNOWN);
        due.is("CAST", x.isText(0, 0), CAST);
        x.shelveText(0, 0);
        due.is("it is", x.isText(0, 0), 1);
        due.is("it is longer", x.isText(0, 1), 0);
        x.record(1, 0, 0, 'd');
        due.is("as long, other letters", x.isText(0, 1), 0);
        x.record(1, 1, 0, 0);
        x.record(1, 0, 0, 'c');
        due.is("it is", x.isText(0, 1), 1);
    }

    private static void oppose() {
        PatchHouse x = begun("ab");
        x.record(0, 0, 2, 'c');
        x.record(0, 1, 0, 0);
        due.is("oppose 4", x.oppose(4, 0), UNKNOWN);
        due.is("oppose -1", x.oppose(-1, 0), UNKNOWN);
        due.is("UNKNOWN ahead of NULL", x.oppose(0, 2), UNKNOWN);
        due.is("NULL", x.oppose(0, 0), NULL);
        x.shelveText(0, 0);
        due.is("UNKNOWN ahead of CAST", x.oppose(0, -1), UNKNOWN);
        due.is("CAST", x.oppose(0, 0), CAST);
        x.shelve(0, 0, 0);
        x.shelve(1, 0, 1);
        due.is("no such place", x.oppose(0, 0), NOT);
        due.is("refused: nothing changes", x.told(1) * 100 + x.told(3), 202);
        due.is("opposite of a take", x.oppose(1, 0), 2);
        stands(x, 0, "0+2 1-0 2+0");
        reads(x, 0, "abc");
        due.is("its letter", x.history(0, 2, 3), 'a');
        due.is("opposite of a put", x.oppose(0, 0), 3);
        reads(x, 0, "ab");
        due.is("can be undone", x.told(3), 4);
        x.record(0, 0, 2, 'd');
        due.is("another letter there", x.oppose(0, 0), NOT);
        x.anew();
        due.is("opposite in an empty text", x.oppose(1, 1), 0);
        reads(x, 1, "a");
    }

    private static void opposeFull() {
        PatchHouse x = begun("abcdefghijkl");
        x.record(1, 1, 0, 0);
        x.shelve(0, 1, 0);
        x.record(1, 0, 0, 'q');
        x.shelve(1, 1, 1);
        puts(x, 0, 12, 12);
        due.is("24 letters", x.oppose(0, 0), FULL);
        due.is("NOT ahead of FULL", x.oppose(1, 0), NOT);
        x.undo();
        due.is("23 letters", x.oppose(0, 0), 14);
        PatchHouse y = new PatchHouse();
        puts(y, 0, 16, 0);
        y.shelve(0, 0, 0);
        due.is("16 changes", y.oppose(0, 0), FULL);
        puts(y, 1, 8, 0);
        due.is("24 numbers", y.oppose(0, 1), FULL);
        y.takeOff(0, 3);
        due.is("24 numbers", y.oppose(0, 0), FULL);
    }

    // ---- promises 23, 24

    private static void images() {
        PatchHouse x = begun("ab");
        due.is("keep 2", x.keep(2), UNKNOWN);
        due.is("keep -1", x.keep(-1), UNKNOWN);
        due.is("goBack 2", x.goBack(2), UNKNOWN);
        due.is("goBack -1", x.goBack(-1), UNKNOWN);
        x.record(0, 0, 0, 'x');
        x.record(1, 0, 0, 'y');
        due.is("goBack, not kept", x.goBack(0), NOT);
        due.is("refused: undo stays", x.told(3), 2);
        due.is("keep", x.keep(0), 1);
        due.is("nothing can be undone", x.told(3), 0);
        due.is("held", x.pull(0, 1), 0);
        x.record(0, 0, 0, 'z');
        x.shelve(2, 0, 1);
        due.is("keep the other", x.keep(1), 1);
        x.takeOff(0, 2);
        due.is("goBack", x.goBack(0), 1);
        due.is("nothing can be undone", x.undo(), NOT);
        stands(x, 0, "0+0");
        due.is("held as kept", x.house(0, 5), NONE);
        due.is("clash as kept", x.house(0, 6), NONE);
        due.is("numbers go on", x.told(1), 3);
        due.is("shelves stay", x.shelved(2, 0), 2);
        due.is("goBack to the other", x.goBack(1), 1);
        stands(x, 0, "0+0 2+0");
        due.is("held as kept", x.house(0, 5), 1);
        due.is("clash as kept", x.house(0, 6), 0);
        x.takeOff(0, 2);
        due.is("an image is not used up", x.goBack(1), 1);
        stands(x, 0, "0+0 2+0");
        due.is("keep again", x.keep(0), 1);
        x.takeOff(0, 2);
        x.goBack(0);
        stands(x, 0, "0+0 2+0");
        x.anew();
        due.is("anew came behind", x.goBack(0), NOT);
        due.is("anew came behind", x.goBack(1), NOT);
        x.keep(1);
        due.is("kept again", x.goBack(1), 1);
        due.is("the other not", x.goBack(0), NOT);
    }
}
