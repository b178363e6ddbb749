import java.lang.reflect.Array;
import java.lang.reflect.Field;

/**
 * PULLED: "what comes does not fit the text at the end (its place, its letter): NOT". No run of calls was
 * found that comes to it, so here a change in house 1 is altered inside the object, behind the calls' back.
 */
public final class DoesNotFitTest {
    private static final int NONE = Edge.NONE, NOT = Edge.NOT, FULL = Edge.FULL;
    private static final Edge edge = new Edge();

    private DoesNotFitTest() {
    }

    public static void main(String[] args) throws ReflectiveOperationException {
        theLetterIsAnother();
        thereIsNoSuchPlace();
        aNeedDoesNotFit();
        theLastDoesNotFit();
        fullComesAhead();
        heldComesAhead();
        edge.end("DoesNotFitTest");
    }

    /** Writes a number into a row ("places", "letters") of a house's history. */
    private static void alter(PatchHouse x, int house, String row, int i, int number) throws ReflectiveOperationException {
        Object history = Array.get(inside(inside(x, "now"), "histories"), house);
        Array.setInt(inside(history, row), i, number);
    }

    private static Object inside(Object of, String name) throws ReflectiveOperationException {
        Field field = of.getClass().getDeclaredField(name);
        field.setAccessible(true);
        return field.get(of);
    }

    private static void doesNotFit(String name, PatchHouse x, int change) {
        String ahead = Sight.all(x);
        edge.answers(name, x.pull(0, change), NOT);
        edge.same(name + ", nothing changes", Sight.all(x), ahead);
    }

    private static void theLetterIsAnother() throws ReflectiveOperationException {
        PatchHouse x = Edge.begun("abcd");
        x.record(0, 0, 0, 'x');
        x.record(1, 1, 2, 0);
        alter(x, 1, "letters", 0, 'q');
        doesNotFit("another letter taken out", x, 1);
        alter(x, 1, "letters", 0, 'c');
        edge.answers("its own letter", x.pull(0, 1), 1);
        edge.reads(x, 0, "xabd");
        PatchHouse put = Edge.begun("abcd");
        put.record(1, 0, 2, 'y');
        alter(put, 1, "letters", 0, 'q');
        edge.answers("put in, any letter fits", put.pull(0, 0), 1);
    }

    private static void thereIsNoSuchPlace() throws ReflectiveOperationException {
        PatchHouse x = Edge.begun("abcd");
        x.record(1, 0, 0, 'y');
        alter(x, 1, "places", 0, 5);
        doesNotFit("put in past the end", x, 0);
        alter(x, 1, "places", 0, 4);
        edge.answers("put in at the end", x.pull(0, 0), 1);
        PatchHouse taken = Edge.begun("aaaa");
        taken.record(1, 1, 0, 0);
        alter(taken, 1, "places", 0, 4);
        doesNotFit("taken out past the end", taken, 0);
        alter(taken, 1, "places", 0, 3);
        edge.answers("the last taken out", taken.pull(0, 0), 1);
    }

    private static void aNeedDoesNotFit() throws ReflectiveOperationException {
        PatchHouse x = Edge.begun("abcd");
        x.record(1, 1, 1, 0);
        x.record(1, 0, 1, 'y');
        alter(x, 1, "letters", 0, 'q');
        doesNotFit("what it needs", x, 1);
    }

    private static void theLastDoesNotFit() throws ReflectiveOperationException {
        PatchHouse x = Edge.begun("abcd");
        x.record(1, 0, 1, 'y');
        x.record(1, 1, 2, 0);
        alter(x, 1, "letters", 1, 'q');
        doesNotFit("the last of those that come", x, 1);
        alter(x, 1, "letters", 1, 'b');
        edge.answers("looked at behind what comes ahead of it", x.pull(0, 1), 2);
        edge.reads(x, 0, "aycd");
    }

    /** "FULL ahead of HELD, that ahead of what does not fit." */
    private static void fullComesAhead() throws ReflectiveOperationException {
        PatchHouse x = Edge.begun("abcd");
        Edge.puts(x, 0, 16, 0);
        x.record(1, 1, 3, 0);
        alter(x, 1, "letters", 0, 'q');
        edge.answers("16 changes, another letter", x.pull(0, 16), FULL);
        x.takeOff(0, 0);
        doesNotFit("15 changes, another letter", x, 16);
    }

    private static void heldComesAhead() throws ReflectiveOperationException {
        PatchHouse x = Edge.begun("abcd");
        x.record(0, 1, 2, 0);
        x.record(1, 1, 3, 0);
        alter(x, 1, "letters", 0, 'q');
        edge.answers("a clash, another letter", x.pull(0, 1), 0);
        edge.answers("held", x.house(0, 5), 1);
        x.takeOff(0, 0);
        x.undo();
        x.undo();
        edge.answers("undone", x.house(0, 5), NONE);
        x.takeOff(0, 0);
        doesNotFit("no clash, another letter", x, 1);
    }
}
