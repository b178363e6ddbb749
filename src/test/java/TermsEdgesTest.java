/** The boundaries that the terms name, where no promise alone has them. */
public final class TermsEdgesTest {
    private static final int NONE = Edge.NONE, NOT = Edge.NOT, FULL = Edge.FULL;
    private static final Edge edge = new Edge();

    private TermsEdgesTest() {
    }

    public static void main(String[] args) {
        refusalsAreFarBelow();
        numbersAsTheyCome();
        aNumberIsKept();
        sameBeginning();
        moreLettersByWhatIsTakenOff();
        moreLettersByWhatWasPulled();
        moreLettersAreUndone();
        needsOfNeeds();
        whatIsNoNeedGoesBehind();
        broughtByTwoWays();
        frontInTheirOrder();
        theLastOf512Calls();
        edge.end("TermsEdgesTest");
    }

    /** "They are far below all that is counted: -1000000001 and on." */
    private static void refusalsAreFarBelow() {
        int[] all = {PatchHouse.UNKNOWN, PatchHouse.OUTSIDE, PatchHouse.NOT, PatchHouse.FULL, PatchHouse.NULL, PatchHouse.CAST};
        int[] want = {-1000000001, -1000000002, -1000000003, -1000000004, -1000000011, -1000000012};
        for (int k = 0; k < all.length; k++) {
            edge.answers("refusal " + k, all[k], want[k]);
        }
        edge.answers("NONE", PatchHouse.NONE, -1);
    }

    /** "What has a number has it from 0 on, as it comes." */
    private static void numbersAsTheyCome() {
        PatchHouse x = new PatchHouse();
        for (int k = 0; k < 24; k++) {
            edge.answers("the next, whatever the house", x.record(k % 2, 0, 0, 'a'), k);
        }
        edge.answers("0 .. 23", x.record(0, 0, 0, 'a'), FULL);
        edge.answers("the even ones", x.house(0, 2), 0x555555);
        edge.answers("the odd ones", x.house(1, 2), 0xaaaaaa);
    }

    /** "A number of its own, which it keeps wherever it stands." */
    private static void aNumberIsKept() {
        PatchHouse x = Edge.begun("abcdef");
        x.record(0, 0, 6, 'x');
        x.record(0, 0, 0, 'y');
        x.turn(0, 0);
        edge.answers("turned", x.change(0, 0, 0), 1);
        x.pull(1, 0);
        edge.answers("pulled", x.history(1, 0, 0), 0);
        x.shelve(0, 1, 0);
        edge.answers("shelved", x.shelved(0, 0), 0);
        x.takeOff(0, 1);
        edge.answers("brought up by what is taken off", x.change(0, 0, 0), 0);
        edge.answers("another gets the next", x.record(0, 0, 0, 'z'), 2);
    }

    private static void sameBeginning() {
        PatchHouse x = Edge.begun("abc");
        x.record(0, 1, 0, 0);
        edge.reads(x, 0, "bc");
        edge.reads(x, 1, "abc");
        x.takeOff(0, 0);
        edge.reads(x, 0, "abc");
    }

    /** "24 letters at most by what is RECORDED or PULLED; more, if what is TAKEN OUT is TAKEN OFF." */
    private static void moreLettersByWhatIsTakenOff() {
        PatchHouse x = Edge.begun("abcdefghijkl");
        x.record(0, 1, 0, 0);
        x.record(0, 1, 0, 0);
        Edge.puts(x, 0, 14, 10);
        edge.answers("24 letters by 16 changes", x.house(0, 0) * 100 + x.house(0, 1), 2416);
        x.takeOff(0, 0);
        edge.answers("25 letters", x.house(0, 0), 25);
        x.takeOff(0, 1);
        edge.answers("26 letters", x.house(0, 0), 26);
        edge.reads(x, 0, "abcdefghijkl" + "zzzzzzzzzzzzzz");
        x.takeOff(0, 2);
        edge.answers("25 letters: one put in is taken off", x.house(0, 0), 25);
        edge.answers("no more put in", x.record(0, 0, 0, 'a'), FULL);
        x.takeOff(0, 3);
        edge.answers("24 letters", x.house(0, 0), 24);
        edge.answers("no more put in", x.record(0, 0, 0, 'a'), FULL);
        x.takeOff(0, 4);
        edge.answers("23 letters: room for one", x.record(0, 0, 0, 'a'), 16);
    }

    private static void moreLettersByWhatWasPulled() {
        PatchHouse x = Edge.begun("abcdefghijkl");
        x.record(1, 1, 3, 0);
        edge.answers("taken out, pulled", x.pull(0, 0), 1);
        Edge.puts(x, 0, 13, 11);
        edge.answers("24 letters", x.house(0, 0), 24);
        edge.answers("taken off", x.takeOff(0, 0), 13);
        edge.answers("25 letters", x.house(0, 0), 25);
        edge.answers("pulled again", x.pull(0, 0), 1);
        edge.answers("24 letters", x.house(0, 0), 24);
    }

    private static void moreLettersAreUndone() {
        PatchHouse x = Edge.made(Edge::longest);
        edge.answers("undone", x.undo(), 7);
        edge.answers("25 letters", x.house(0, 0), 25);
        edge.answers("undone", x.undo(), 6);
        edge.answers("24 letters", x.house(0, 0), 24);
        PatchHouse y = Edge.made(Edge::longest);
        y.keep(0);
        y.takeOff(0, 2);
        y.goBack(0);
        edge.answers("26 letters as kept", y.house(0, 0), 26);
        edge.answers("the last place of its history", y.history(0, 13, 2), 12);
    }

    /** It can be turned round with what needs it not, but not with what that needs. */
    private static void needsOfNeeds() {
        PatchHouse x = Edge.begun("abcdefgh");
        x.record(0, 0, 2, 'x');
        x.record(0, 1, 3, 0);
        x.record(0, 0, 3, 'y');
        edge.answers("the second needs the first", x.change(0, 1, 1), 1);
        edge.answers("the third needs the second, so the first", x.change(0, 2, 1), 3);
        edge.answers("so the first is needed by both", x.change(0, 0, 2), 6);
        edge.answers("the first can't be taken off", x.takeOff(0, 0), NOT);
        edge.answers("nor the second", x.takeOff(0, 1), NOT);
        edge.answers("the third can", x.takeOff(0, 2), 2);
        edge.answers("then the second", x.takeOff(0, 1), 1);
        edge.answers("then the first", x.takeOff(0, 0), 0);
    }

    private static void whatIsNoNeedGoesBehind() {
        PatchHouse x = Edge.begun("abcdefgh");
        x.record(0, 0, 2, 'x');
        x.record(0, 0, 0, 'y');
        x.record(0, 0, 10, 'z');
        x.record(0, 1, 3, 0);
        edge.answers("the first alone is a need", x.change(0, 3, 1), 1);
        edge.answers("it comes with that", x.pull(1, 3), 2);
        edge.stands(x, 1, "0+2 3-2");
        edge.stands(x, 0, "0+2 1+0 2+10 3-3");
        edge.answers("asked, it stands where it stood", x.change(0, 3, 0), 3);
    }

    /** To the end and back by turns: each stands as it stood. */
    private static void broughtByTwoWays() {
        PatchHouse x = Edge.begun("abcdefgh");
        x.record(0, 0, 4, 'x');
        x.record(0, 0, 4, 'y');
        x.record(0, 1, 0, 0);
        x.record(0, 0, 8, 'z');
        String ahead = Sight.history(x, 0);
        for (int i = 0; i < 3; i++) {
            x.turn(0, i);
        }
        edge.stands(x, 0, "1+4 2-0 3+7 0+4");
        for (int i = 2; i >= 0; i--) {
            x.turn(0, i);
        }
        edge.stands(x, 0, ahead);
        edge.reads(x, 0, "bcdyxefgzh");
    }

    /** What both have is brought to the front in the order of each house, the first to place 0. */
    private static void frontInTheirOrder() {
        PatchHouse x = Edge.begun("abcdef");
        x.record(0, 0, 6, 'w');
        x.record(0, 0, 0, 'x');
        x.record(0, 0, 3, 'y');
        x.pull(1, 1);
        x.pull(1, 0);
        edge.stands(x, 1, "1+0 0+7");
        x.record(1, 0, 8, 'z');
        edge.answers("pulled", x.pull(0, 3), 1);
        edge.stands(x, 0, "0+6 1+0 2+3 3+9");
        edge.stands(x, 1, "1+0 0+7 3+8");
        edge.reads(x, 0, "xabycdefwz");
        edge.answers("pulled the other way", x.pull(1, 2), 1);
        edge.stands(x, 1, "1+0 0+7 3+8 2+3");
        edge.answers("alike", x.told(2), 1);
    }

    private static void theLastOf512Calls() {
        PatchHouse x = new PatchHouse();
        for (int k = 0; k < 6; k++) {
            x.record(0, 0, 0, 'a');
        }
        for (int k = 6; k < 511; k++) {
            x.house(0, 4);
        }
        edge.answers("the 512th", x.house(0, 4), 720);
        PatchHouse y = new PatchHouse();
        for (int k = 0; k < 255; k++) {
            y.record(0, 0, 0, 'a');
            y.anew();
        }
        edge.answers("the 511th", y.record(1, 0, 0, 'b'), 0);
        edge.answers("the 512th", y.text(1, 0), 'b');
        edge.answers("none", new PatchHouse().house(0, 5), NONE);
    }
}
