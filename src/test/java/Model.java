import java.util.ArrayList;
import java.util.HashSet;
import java.util.List;
import java.util.Set;

/**
 * The document once more, as literally as can be and without a thought for speed or room: lists
 * that are copied at every step. ModelTest holds PatchHouse against it.
 */
final class Model {
    static final int NONE = -1, UNKNOWN = -1000000001, OUTSIDE = -1000000002, NOT = -1000000003,
        FULL = -1000000004, NULL = -1000000011, CAST = -1000000012;

    record Change(int number, int sort, int place, int letter) {
        Change at(int newPlace) {
            return new Change(number, sort, newPlace, letter);
        }

        Change opposite() {
            return new Change(number, 1 - sort, place, letter);
        }
    }

    record State(List<Change> first, List<Change> second, List<Integer> held, List<Integer> clashes) {
        List<Change> of(int house) {
            return house == 0 ? first : second;
        }

        State with(int house, List<Change> history) {
            return house == 0 ? new State(history, second, held, clashes) : new State(first, history, held, clashes);
        }

        State holding(int house, int change, int clash) {
            List<Integer> h = new ArrayList<>(held);
            List<Integer> c = new ArrayList<>(clashes);
            h.set(house, change);
            c.set(house, clash);
            return new State(first, second, h, c);
        }
    }

    private static final State BLANK = new State(List.of(), List.of(), List.of(NONE, NONE), List.of(NONE, NONE));

    private String beginning = "";
    private int numbers = 0;
    private State state = BLANK;
    private final List<State> past = new ArrayList<>();
    private final State[] images = new State[2];
    private final Object[] shelves = new Object[4];

    // ---- turning round

    static Change[] turned(Change a, Change b) {
        int i = a.place, j = b.place;
        String sorts = a.sort + "," + b.sort;
        switch (sorts) {
            case "0,0":
                return j <= i ? pair(b, j, a, i + 1) : pair(b, j - 1, a, i);
            case "0,1":
                return j < i - 1 ? pair(b, j, a, i - 1) : j > i + 1 ? pair(b, j - 1, a, i) : null;
            case "1,0":
                return j < i ? pair(b, j, a, i + 1) : j > i ? pair(b, j + 1, a, i) : null;
            default:
                return j < i ? pair(b, j, a, i - 1) : pair(b, j + 1, a, i);
        }
    }

    private static Change[] pair(Change first, int k, Change second, int m) {
        return new Change[] {first.at(k), second.at(m)};
    }

    private static List<Change> turnedAt(List<Change> history, int i) {
        if (history == null || i < 0 || i >= history.size() - 1) {
            return null;
        }
        Change[] both = turned(history.get(i), history.get(i + 1));
        if (both == null) {
            return null;
        }
        List<Change> result = new ArrayList<>(history);
        result.set(i, both[0]);
        result.set(i + 1, both[1]);
        return result;
    }

    private static List<Change> brought(List<Change> history, int from, int to) {
        List<Change> result = history;
        for (int i = from; i < to && result != null; i++) {
            result = turnedAt(result, i);
        }
        for (int i = from; i > to && result != null; i--) {
            result = turnedAt(result, i - 1);
        }
        return result;
    }

    private static int find(List<Change> history, int number) {
        for (int i = 0; i < history.size(); i++) {
            if (history.get(i).number == number) {
                return i;
            }
        }
        return NONE;
    }

    private static int set(List<Change> history) {
        int set = 0;
        for (Change c : history) {
            set |= 1 << c.number;
        }
        return set;
    }

    /** The numbers of the needs of those from `front` on, in their order. */
    private static List<Integer> needs(List<Change> history, int at, int front) {
        List<Change> block = new ArrayList<>(List.of(history.get(at)));
        for (int q = at - 1; q >= front; q--) {
            Change ahead = history.get(q);
            List<Change> moved = new ArrayList<>();
            boolean can = true;
            for (Change b : block) {
                Change[] both = turned(ahead, b);
                if (both == null) {
                    can = false;
                    break;
                }
                moved.add(both[0]);
                ahead = both[1];
            }
            if (can) {
                block = moved;
            } else {
                block.add(0, history.get(q));
            }
        }
        List<Integer> result = new ArrayList<>();
        for (Change b : block.subList(0, block.size() - 1)) {
            result.add(b.number);
        }
        return result;
    }

    private static int needsSet(List<Change> history, int at) {
        int set = 0;
        for (int n : needs(history, at, 0)) {
            set |= 1 << n;
        }
        return set;
    }

    // ---- texts

    private static String applied(String text, Change c) {
        if (!fits(text, c)) {
            throw new IllegalStateException("a history that does not fit its text: " + c + " on " + text);
        }
        String rest = text.substring(c.sort == 0 ? c.place : c.place + 1);
        return text.substring(0, c.place) + (c.sort == 0 ? String.valueOf((char) c.letter) : "") + rest;
    }

    private static boolean fits(String text, Change c) {
        if (c.sort == 0) {
            return c.place >= 0 && c.place <= text.length();
        }
        return c.place >= 0 && c.place < text.length() && text.charAt(c.place) == c.letter;
    }

    String textOf(int house) {
        String text = beginning;
        for (Change c : state.of(house)) {
            text = applied(text, c);
        }
        return text;
    }

    // ---- the calls

    private void remember() {
        past.add(state);
        if (past.size() > 8) {
            past.remove(0);
        }
    }

    int anew() {
        int were = numbers;
        beginning = "";
        numbers = 0;
        state = BLANK;
        past.clear();
        images[0] = null;
        images[1] = null;
        return were;
    }

    int begin(int letter) {
        if (letter < 97 || letter > 122) {
            return OUTSIDE;
        }
        if (numbers > 0) {
            return NOT;
        }
        if (beginning.length() == 12) {
            return FULL;
        }
        beginning += (char) letter;
        return beginning.length();
    }

    private boolean canAppend(int house, int sort) {
        return numbers < 24 && state.of(house).size() < 16 && (sort == 1 || textOf(house).length() < 24);
    }

    private int append(int house, int sort, int place, int letter) {
        List<Change> history = new ArrayList<>(state.of(house));
        history.add(new Change(numbers, sort, place, sort == 1 ? textOf(house).charAt(place) : letter));
        state = state.with(house, history);
        return numbers++;
    }

    int record(int house, int sort, int place, int letter) {
        if (house != 0 && house != 1) {
            return UNKNOWN;
        }
        int length = textOf(house).length();
        if (sort != 0 && sort != 1 || sort == 0 && (letter < 97 || letter > 122)
            || place < 0 || place > length - sort) {
            return OUTSIDE;
        }
        if (!canAppend(house, sort)) {
            return FULL;
        }
        remember();
        return append(house, sort, place, letter);
    }

    int takeOff(int house, int change) {
        if (house != 0 && house != 1 || find(state.of(house), change) == NONE) {
            return UNKNOWN;
        }
        List<Change> history = state.of(house);
        int last = history.size() - 1;
        List<Change> result = brought(history, find(history, change), last);
        if (result == null) {
            return NOT;
        }
        remember();
        state = state.with(house, new ArrayList<>(result.subList(0, last)));
        return last;
    }

    int turn(int house, int i) {
        if (house != 0 && house != 1 || i < 0 || i >= state.of(house).size() - 1) {
            return UNKNOWN;
        }
        List<Change> result = turnedAt(state.of(house), i);
        if (result == null) {
            return NOT;
        }
        remember();
        state = state.with(house, result);
        return result.get(i).number;
    }

    private static List<Change> commonToFront(List<Change> history, int common) {
        List<Change> result = history;
        int front = 0;
        for (Change c : history) {
            if ((common >> c.number & 1) == 1) {
                result = brought(result, find(result, c.number), front++);
                if (result == null) {
                    return null;
                }
            }
        }
        return result;
    }

    int pull(int house, int change) {
        if (house != 0 && house != 1 || find(state.of(1 - house), change) == NONE) {
            return UNKNOWN;
        }
        if (find(state.of(house), change) != NONE) {
            return NOT;
        }
        int common = set(state.of(0)) & set(state.of(1));
        int front = Integer.bitCount(common);
        List<Change> theirs = commonToFront(state.of(1 - house), common);
        List<Change> ours = commonToFront(state.of(house), common);
        if (theirs == null || ours == null) {
            return NOT;
        }
        List<Integer> wanted = needs(theirs, find(theirs, change), front);
        wanted.add(change);
        int next = front;
        for (int number : wanted) {
            theirs = brought(theirs, find(theirs, number), next++);
            if (theirs == null) {
                return NOT;
            }
        }
        List<Change> coming = theirs.subList(front, next);
        return past(house, change, ours, new ArrayList<>(coming), front);
    }

    private int past(int house, int change, List<Change> ours, List<Change> coming, int front) {
        int length = textOf(house).length();
        boolean tooLong = false;
        for (Change c : coming) {
            length += c.sort == 0 ? 1 : -1;
            tooLong |= length > 24;
        }
        if (tooLong || ours.size() + coming.size() > 16) {
            return FULL;
        }
        List<Change> own = new ArrayList<>(ours.subList(front, ours.size()));
        List<Change> result = new ArrayList<>(ours);
        for (Change c : coming) {
            Change goes = c;
            for (int o = 0; o < own.size(); o++) {
                Change[] both = turned(own.get(o).opposite(), goes);
                if (both == null) {
                    remember();
                    state = state.holding(house, change, own.get(o).number);
                    return 0;
                }
                goes = both[0];
                own.set(o, both[1].opposite());
            }
            result.add(goes);
        }
        String text = textOf(house);
        for (Change c : result.subList(ours.size(), result.size())) {
            if (!fits(text, c)) {
                return NOT;
            }
            text = applied(text, c);
        }
        remember();
        state = state.with(house, result);
        return coming.size();
    }

    int drift(int n, int seed) {
        if (n < 1 || n > 20 || seed < 1 || seed > 999999) {
            return OUTSIDE;
        }
        remember();
        long x = seed;
        int recorded = 0;
        for (int k = 0; k < n; k++) {
            x = x * 16807 % 2147483647;
            int house = (int) (x % 2);
            x = x * 16807 % 2147483647;
            int sort = x % 3 == 2 ? 1 : 0;
            int length = textOf(house).length();
            int place = 0, letter = 0;
            if (sort == 0) {
                x = x * 16807 % 2147483647;
                place = (int) (x % (length + 1));
                x = x * 16807 % 2147483647;
                letter = (int) (97 + x % 26);
            } else if (length > 0) {
                x = x * 16807 % 2147483647;
                place = (int) (x % length);
            } else {
                continue;
            }
            if (canAppend(house, sort)) {
                append(house, sort, place, letter);
                recorded++;
            }
        }
        return recorded;
    }

    int undo() {
        if (past.isEmpty()) {
            return NOT;
        }
        state = past.remove(past.size() - 1);
        return past.size();
    }

    int told(int what) {
        return switch (what) {
            case 0 -> beginning.length();
            case 1 -> numbers;
            case 2 -> textOf(0).equals(textOf(1)) ? 1 : 0;
            case 3 -> past.size();
            case 4 -> set(state.of(0)) & set(state.of(1));
            default -> OUTSIDE;
        };
    }

    /** Every standing, places too, is looked at by itself; what counts is the orders among them. */
    private static int lawful(List<Change> history) {
        Set<List<Change>> seen = new HashSet<>();
        List<List<Change>> open = new ArrayList<>();
        seen.add(history);
        open.add(history);
        while (!open.isEmpty()) {
            List<Change> next = open.remove(open.size() - 1);
            for (int i = 0; i + 1 < next.size(); i++) {
                List<Change> other = turnedAt(next, i);
                if (other != null && seen.add(other)) {
                    open.add(other);
                }
            }
        }
        Set<List<Integer>> orders = new HashSet<>();
        for (List<Change> standing : seen) {
            List<Integer> order = new ArrayList<>();
            for (Change c : standing) {
                order.add(c.number);
            }
            orders.add(order);
        }
        return orders.size();
    }

    int house(int house, int what) {
        if (house != 0 && house != 1) {
            return UNKNOWN;
        }
        List<Change> own = state.of(house);
        return switch (what) {
            case 0 -> textOf(house).length();
            case 1 -> own.size();
            case 2 -> set(own);
            case 3 -> set(own) & ~set(state.of(1 - house));
            case 4 -> own.size() > 6 ? NONE : lawful(own);
            case 5 -> state.held.get(house);
            case 6 -> state.clashes.get(house);
            default -> OUTSIDE;
        };
    }

    int text(int house, int i) {
        if (house != 0 && house != 1) {
            return UNKNOWN;
        }
        if (i < 0) {
            return OUTSIDE;
        }
        return i < textOf(house).length() ? textOf(house).charAt(i) : NONE;
    }

    int history(int house, int i, int what) {
        if (house != 0 && house != 1 || i < 0 || i >= state.of(house).size()) {
            return UNKNOWN;
        }
        Change c = state.of(house).get(i);
        return switch (what) {
            case 0 -> c.number;
            case 1 -> c.sort;
            case 2 -> c.place;
            case 3 -> c.letter;
            case 4 -> turnedAt(state.of(house), i) == null ? 0 : 1;
            default -> OUTSIDE;
        };
    }

    int change(int house, int change, int what) {
        if (house != 0 && house != 1 || find(state.of(house), change) == NONE) {
            return UNKNOWN;
        }
        List<Change> own = state.of(house);
        int at = find(own, change);
        switch (what) {
            case 0:
                return at;
            case 1:
                return needsSet(own, at);
            case 2:
                int set = 0;
                for (int i = at + 1; i < own.size(); i++) {
                    set |= (needsSet(own, i) >> change & 1) << own.get(i).number;
                }
                return set;
            case 3:
                return brought(own, at, own.size() - 1) == null ? 0 : 1;
            default:
                return OUTSIDE;
        }
    }

    int round(int sort, int i, int other, int j) {
        if (sort != 0 && sort != 1 || other != 0 && other != 1 || i < 0 || i > 30 || j < 0 || j > 30) {
            return OUTSIDE;
        }
        Change[] both = turned(new Change(0, sort, i, 0), new Change(1, other, j, 0));
        return both == null ? NONE : 100 * both[0].place + both[1].place;
    }

    int shelve(int s, int house, int i) {
        if (s < 0 || s > 3 || house != 0 && house != 1 || i < 0 || i >= state.of(house).size()) {
            return UNKNOWN;
        }
        shelves[s] = state.of(house).get(i);
        return state.of(house).get(i).number;
    }

    int shelveText(int s, int house) {
        if (s < 0 || s > 3 || house != 0 && house != 1) {
            return UNKNOWN;
        }
        shelves[s] = textOf(house);
        return textOf(house).length();
    }

    int empty(int s) {
        if (s < 0 || s > 3) {
            return UNKNOWN;
        }
        Object held = shelves[s];
        shelves[s] = null;
        return held == null ? 0 : held instanceof Change ? 1 : 2;
    }

    int shelved(int s, int what) {
        if (s < 0 || s > 3) {
            return UNKNOWN;
        }
        if (what < 0 || what > 3) {
            return OUTSIDE;
        }
        if (shelves[s] == null) {
            return NULL;
        }
        if (!(shelves[s] instanceof Change c)) {
            return CAST;
        }
        return new int[] {c.number, c.sort, c.place, c.letter}[what];
    }

    int letter(int s, int i) {
        if (s < 0 || s > 3) {
            return UNKNOWN;
        }
        if (i < 0) {
            return OUTSIDE;
        }
        if (shelves[s] == null) {
            return NULL;
        }
        if (!(shelves[s] instanceof String text)) {
            return CAST;
        }
        return i < text.length() ? text.charAt(i) : NONE;
    }

    int isText(int s, int house) {
        if (s < 0 || s > 3 || house != 0 && house != 1) {
            return UNKNOWN;
        }
        if (shelves[s] == null) {
            return NULL;
        }
        if (!(shelves[s] instanceof String text)) {
            return CAST;
        }
        return text.equals(textOf(house)) ? 1 : 0;
    }

    int oppose(int s, int house) {
        if (s < 0 || s > 3 || house != 0 && house != 1) {
            return UNKNOWN;
        }
        if (shelves[s] == null) {
            return NULL;
        }
        if (!(shelves[s] instanceof Change c)) {
            return CAST;
        }
        if (!fits(textOf(house), c.opposite())) {
            return NOT;
        }
        if (!canAppend(house, 1 - c.sort)) {
            return FULL;
        }
        remember();
        return append(house, 1 - c.sort, c.place, c.letter);
    }

    int keep(int i) {
        if (i != 0 && i != 1) {
            return UNKNOWN;
        }
        images[i] = state;
        past.clear();
        return 1;
    }

    int goBack(int i) {
        if (i != 0 && i != 1) {
            return UNKNOWN;
        }
        if (images[i] == null) {
            return NOT;
        }
        state = images[i];
        past.clear();
        return 1;
    }
}
