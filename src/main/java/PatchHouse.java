/**
 * Changes of a text, two houses with a history each, and what can be done with these.
 * The document (shared/DOC.md) tells every promise; its words are used here as they stand there.
 */
public final class PatchHouse {
    public static final int NONE = -1, UNKNOWN = -1000000001, OUTSIDE = -1000000002, NOT = -1000000003,
        FULL = -1000000004, NULL = -1000000011, CAST = -1000000012;

    private static final int HOUSES = 2, SHELVES = 4, IMAGES = 2;
    private static final int PUT_IN = 0, TAKEN_OUT = 1;
    private static final int FIRST_LETTER = 97, LAST_LETTER = 122, ALPHABET = 26;
    private static final int MOST_BEGINNING = 12, MOST_LETTERS = 24, MOST_CHANGES = 16, MOST_NUMBERS = 24;
    private static final int MOST_UNDONE = 8, MOST_LOTS = 20, MOST_SEED = 999999, MOST_PLACE = 30;
    private static final int MOST_ORDERED = 6, MOST_ORDERS = 720;

    // Taking off what was taken out lets a text grow past MOST_LETTERS, but never past this.
    private static final int ROOM = MOST_BEGINNING + MOST_CHANGES;

    // Places stay far below this, so k and m go into one number, in the form that round() tells.
    private static final int PAIR = 100;

    private final Writing beginning;
    private final Houses now;
    private final Past past;
    private final Houses[] images;
    private final boolean[] isKept;
    private final Shelf[] shelves;
    private final Writing[] texts;
    private final History spare;
    private final Pulling pulling;
    private final Orders orders;
    private final Lots lots;
    private int numbers;

    public PatchHouse() {
        beginning = new Writing();
        now = new Houses();
        past = new Past();
        images = new Houses[IMAGES];
        for (int i = 0; i < IMAGES; i++) {
            images[i] = new Houses();
        }
        isKept = new boolean[IMAGES];
        shelves = new Shelf[SHELVES];
        for (int s = 0; s < SHELVES; s++) {
            shelves[s] = new Shelf();
        }
        texts = new Writing[HOUSES];
        for (int h = 0; h < HOUSES; h++) {
            texts[h] = new Writing();
        }
        spare = new History();
        pulling = new Pulling();
        orders = new Orders();
        lots = new Lots();
        numbers = 0;
    }

    // ---- the beginning

    public int anew() {
        int were = numbers;
        beginning.size = 0;
        now.clear();
        past.count = 0;
        for (int i = 0; i < IMAGES; i++) {
            isKept[i] = false;
        }
        numbers = 0;
        return were;
    }

    public int begin(int letter) {
        if (!isLetter(letter)) {
            return OUTSIDE;
        }
        if (numbers > 0) {
            return NOT;
        }
        if (beginning.size >= MOST_BEGINNING) {
            return FULL;
        }
        beginning.apply(PUT_IN, beginning.size, letter);
        return beginning.size;
    }

    // ---- what is done

    public int record(int house, int sort, int place, int letter) {
        if (!isHouse(house)) {
            return UNKNOWN;
        }
        if (!isSort(sort) || (sort == PUT_IN && !isLetter(letter))) {
            return OUTSIDE;
        }
        Writing written = readText(house);
        if (!written.hasPlace(sort, place)) {
            return OUTSIDE;
        }
        if (!hasRoom(house, sort)) {
            return FULL;
        }
        past.push(now);
        return append(house, sort, place, letter);
    }

    public int takeOff(int house, int change) {
        if (!isHouse(house)) {
            return UNKNOWN;
        }
        History own = now.histories[house];
        int at = own.find(change);
        if (at == NONE) {
            return UNKNOWN;
        }
        if (!own.canGoToEnd(at)) {
            return NOT;
        }
        past.push(now);
        own.bring(at, own.size - 1);
        own.size--;
        return own.size;
    }

    public int turn(int house, int i) {
        if (!isHouse(house) || !now.histories[house].hasPair(i)) {
            return UNKNOWN;
        }
        History own = now.histories[house];
        if (own.pairAt(i) == NONE) {
            return NOT;
        }
        past.push(now);
        own.swap(i);
        return own.numbers[i];
    }

    public int pull(int house, int change) {
        if (!isHouse(house) || now.histories[1 - house].find(change) == NONE) {
            return UNKNOWN;
        }
        History own = now.histories[house];
        if (own.find(change) != NONE || !pulling.sortOut(own, now.histories[1 - house], change)) {
            return NOT;
        }
        Writing written = readText(house);
        if (!pulling.hasRoom(written.size)) {
            return FULL;
        }
        int clash = pulling.goPast();
        if (clash != NONE) {
            past.push(now);
            now.held[house] = change;
            now.clashes[house] = clash;
            return 0;
        }
        if (!pulling.fits(written)) {
            return NOT;
        }
        past.push(now);
        pulling.giveTo(own);
        return pulling.coming;
    }

    public int drift(int n, int seed) {
        if (n < 1 || n > MOST_LOTS || seed < 1 || seed > MOST_SEED) {
            return OUTSIDE;
        }
        past.push(now);
        lots.start(seed);
        int recorded = 0;
        for (int k = 0; k < n; k++) {
            if (recordByLots()) {
                recorded++;
            }
        }
        return recorded;
    }

    public int undo() {
        if (past.count == 0) {
            return NOT;
        }
        past.pop(now);
        return past.count;
    }

    // ---- what is told

    public int told(int what) {
        switch (what) {
            case 0:
                return beginning.size;
            case 1:
                return numbers;
            case 2:
                return readText(0).isSame(readText(1)) ? 1 : 0;
            case 3:
                return past.count;
            case 4:
                return now.histories[0].asSet() & now.histories[1].asSet();
            default:
                return OUTSIDE;
        }
    }

    public int house(int house, int what) {
        if (!isHouse(house)) {
            return UNKNOWN;
        }
        History own = now.histories[house];
        switch (what) {
            case 0:
                return readText(house).size;
            case 1:
                return own.size;
            case 2:
                return own.asSet();
            case 3:
                return own.asSet() & ~now.histories[1 - house].asSet();
            case 4:
                return own.size > MOST_ORDERED ? NONE : orders.count(own);
            case 5:
                return now.held[house];
            case 6:
                return now.clashes[house];
            default:
                return OUTSIDE;
        }
    }

    public int text(int house, int i) {
        if (!isHouse(house)) {
            return UNKNOWN;
        }
        return i < 0 ? OUTSIDE : readText(house).at(i);
    }

    public int history(int house, int i, int what) {
        if (!isHouse(house) || !now.histories[house].hasPlace(i)) {
            return UNKNOWN;
        }
        History own = now.histories[house];
        switch (what) {
            case 0:
                return own.numbers[i];
            case 1:
                return own.sorts[i];
            case 2:
                return own.places[i];
            case 3:
                return own.letters[i];
            case 4:
                return own.pairAt(i) == NONE ? 0 : 1;
            default:
                return OUTSIDE;
        }
    }

    public int change(int house, int change, int what) {
        if (!isHouse(house)) {
            return UNKNOWN;
        }
        History own = now.histories[house];
        int at = own.find(change);
        if (at == NONE) {
            return UNKNOWN;
        }
        switch (what) {
            case 0:
                return at;
            case 1:
                return needsAt(own, at);
            case 2:
                return needingIt(own, at);
            case 3:
                return own.canGoToEnd(at) ? 1 : 0;
            default:
                return OUTSIDE;
        }
    }

    public int round(int sort, int i, int other, int j) {
        if (!isSort(sort) || !isSort(other) || i < 0 || i > MOST_PLACE || j < 0 || j > MOST_PLACE) {
            return OUTSIDE;
        }
        return turned(sort, i, other, j);
    }

    // ---- shelves

    public int shelve(int s, int house, int i) {
        if (!isShelf(s) || !isHouse(house) || !now.histories[house].hasPlace(i)) {
            return UNKNOWN;
        }
        return shelves[s].holdChange(now.histories[house], i);
    }

    public int shelveText(int s, int house) {
        if (!isShelf(s) || !isHouse(house)) {
            return UNKNOWN;
        }
        return shelves[s].holdWriting(readText(house));
    }

    public int empty(int s) {
        if (!isShelf(s)) {
            return UNKNOWN;
        }
        Shelvable held = shelves[s].held;
        shelves[s].held = null;
        if (held == null) {
            return 0;
        }
        return held instanceof OneChange ? 1 : 2;
    }

    public int shelved(int s, int what) {
        if (!isShelf(s)) {
            return UNKNOWN;
        }
        if (what < 0 || what > 3) {
            return OUTSIDE;
        }
        Shelvable held = shelves[s].held;
        if (held == null) {
            return NULL;
        }
        if (!(held instanceof OneChange one)) {
            return CAST;
        }
        switch (what) {
            case 0:
                return one.number;
            case 1:
                return one.sort;
            case 2:
                return one.place;
            default:
                return one.letter;
        }
    }

    public int letter(int s, int i) {
        if (!isShelf(s)) {
            return UNKNOWN;
        }
        if (i < 0) {
            return OUTSIDE;
        }
        Shelvable held = shelves[s].held;
        if (held == null) {
            return NULL;
        }
        return held instanceof Writing written ? written.at(i) : CAST;
    }

    public int isText(int s, int house) {
        if (!isShelf(s) || !isHouse(house)) {
            return UNKNOWN;
        }
        Shelvable held = shelves[s].held;
        if (held == null) {
            return NULL;
        }
        if (!(held instanceof Writing written)) {
            return CAST;
        }
        return written.isSame(readText(house)) ? 1 : 0;
    }

    public int oppose(int s, int house) {
        if (!isShelf(s) || !isHouse(house)) {
            return UNKNOWN;
        }
        Shelvable held = shelves[s].held;
        if (held == null) {
            return NULL;
        }
        if (!(held instanceof OneChange one)) {
            return CAST;
        }
        int sort = opposite(one.sort);
        if (!readText(house).fits(sort, one.place, one.letter)) {
            return NOT;
        }
        if (!hasRoom(house, sort)) {
            return FULL;
        }
        past.push(now);
        return append(house, sort, one.place, one.letter);
    }

    // ---- images

    public int keep(int i) {
        if (!isImage(i)) {
            return UNKNOWN;
        }
        images[i].copyFrom(now);
        isKept[i] = true;
        past.count = 0;
        return 1;
    }

    public int goBack(int i) {
        if (!isImage(i)) {
            return UNKNOWN;
        }
        if (!isKept[i]) {
            return NOT;
        }
        now.copyFrom(images[i]);
        past.count = 0;
        return 1;
    }

    // ---- what the calls have in common

    private static boolean isHouse(int house) {
        return house >= 0 && house < HOUSES;
    }

    private static boolean isShelf(int s) {
        return s >= 0 && s < SHELVES;
    }

    private static boolean isImage(int i) {
        return i >= 0 && i < IMAGES;
    }

    private static boolean isSort(int sort) {
        return sort == PUT_IN || sort == TAKEN_OUT;
    }

    private static boolean isLetter(int letter) {
        return letter >= FIRST_LETTER && letter <= LAST_LETTER;
    }

    private static int opposite(int sort) {
        return sort == PUT_IN ? TAKEN_OUT : PUT_IN;
    }

    /** The text of a house, in a row that the next call for the same house writes over. */
    private Writing readText(int house) {
        Writing written = texts[house];
        written.copyFrom(beginning);
        History own = now.histories[house];
        for (int i = 0; i < own.size; i++) {
            written.apply(own.sorts[i], own.places[i], own.letters[i]);
        }
        return written;
    }

    /** Whether one more change can be recorded; texts[house] must have been read. */
    private boolean hasRoom(int house, int sort) {
        return numbers < MOST_NUMBERS && now.histories[house].size < MOST_CHANGES
            && (sort == TAKEN_OUT || texts[house].size < MOST_LETTERS);
    }

    /** Gives out the next number; texts[house] must have been read, and have the place. */
    private int append(int house, int sort, int place, int letter) {
        int real = sort == TAKEN_OUT ? texts[house].at(place) : letter;
        int number = numbers;
        now.histories[house].add(number, sort, place, real);
        numbers++;
        return number;
    }

    private boolean recordByLots() {
        int house = lots.next(HOUSES);
        int sort = lots.next(3) == 2 ? TAKEN_OUT : PUT_IN;
        Writing written = readText(house);
        if (sort == TAKEN_OUT && written.size == 0) {
            return false;
        }
        int place = lots.next(sort == TAKEN_OUT ? written.size : written.size + 1);
        // The letter's lot is drawn even where nothing can be recorded: later lots depend on it.
        int letter = sort == TAKEN_OUT ? NONE : FIRST_LETTER + lots.next(ALPHABET);
        if (!hasRoom(house, sort)) {
            return false;
        }
        append(house, sort, place, letter);
        return true;
    }

    private int needsAt(History own, int at) {
        spare.copyFrom(own);
        int needs = spare.gather(at, 0);
        int set = 0;
        for (int i = 0; i < needs; i++) {
            set |= 1 << spare.numbers[i];
        }
        return set;
    }

    private int needingIt(History own, int at) {
        int set = 0;
        for (int i = at + 1; i < own.size; i++) {
            if ((needsAt(own, i) >> own.numbers[at] & 1) == 1) {
                set |= 1 << own.numbers[i];
            }
        }
        return set;
    }

    // ---- two changes turned round: PAIR times k and m, or NONE

    private static int turned(int sort, int i, int other, int j) {
        if (sort == PUT_IN && other == PUT_IN) {
            return j <= i ? PAIR * j + i + 1 : PAIR * (j - 1) + i;
        }
        if (sort == PUT_IN) {
            if (j < i - 1) {
                return PAIR * j + i - 1;
            }
            return j > i + 1 ? PAIR * (j - 1) + i : NONE;
        }
        if (other == PUT_IN) {
            if (j < i) {
                return PAIR * j + i + 1;
            }
            return j > i ? PAIR * (j + 1) + i : NONE;
        }
        return j < i ? PAIR * j + i - 1 : PAIR * (j + 1) + i;
    }

    /** What a shelf may hold. */
    private interface Shelvable {
    }

    private static final class OneChange implements Shelvable {
        private int number, sort, place, letter;
    }

    /** A shelf has a row for either kind, so that none is made by a call. */
    private static final class Shelf {
        private final OneChange one = new OneChange();
        private final Writing written = new Writing();
        private Shelvable held;

        /** i must be a place of the history. */
        private int holdChange(History from, int i) {
            one.number = from.numbers[i];
            one.sort = from.sorts[i];
            one.place = from.places[i];
            one.letter = from.letters[i];
            held = one;
            return one.number;
        }

        private int holdWriting(Writing from) {
            written.copyFrom(from);
            held = written;
            return written.size;
        }
    }

    private static final class Writing implements Shelvable {
        private final int[] letters = new int[ROOM];
        private int size;

        private void copyFrom(Writing other) {
            System.arraycopy(other.letters, 0, letters, 0, other.size);
            size = other.size;
        }

        private int at(int i) {
            return i >= 0 && i < size ? letters[i] : NONE;
        }

        private boolean hasPlace(int sort, int place) {
            return place >= 0 && (sort == PUT_IN ? place <= size : place < size);
        }

        private boolean fits(int sort, int place, int letter) {
            return hasPlace(sort, place) && (sort == PUT_IN || letters[place] == letter);
        }

        private void apply(int sort, int place, int letter) {
            if (!hasPlace(sort, place)) {
                return;
            }
            if (sort == TAKEN_OUT) {
                System.arraycopy(letters, place + 1, letters, place, size - place - 1);
                size--;
            } else if (size < ROOM) {
                System.arraycopy(letters, place, letters, place + 1, size - place);
                letters[place] = letter;
                size++;
            }
        }

        private boolean isSame(Writing other) {
            if (size != other.size) {
                return false;
            }
            for (int i = 0; i < size; i++) {
                if (letters[i] != other.letters[i]) {
                    return false;
                }
            }
            return true;
        }
    }

    private static final class History {
        private final int[] numbers = new int[MOST_CHANGES];
        private final int[] sorts = new int[MOST_CHANGES];
        private final int[] places = new int[MOST_CHANGES];
        private final int[] letters = new int[MOST_CHANGES];
        private int size;

        private void copyFrom(History other) {
            System.arraycopy(other.numbers, 0, numbers, 0, other.size);
            System.arraycopy(other.sorts, 0, sorts, 0, other.size);
            System.arraycopy(other.places, 0, places, 0, other.size);
            System.arraycopy(other.letters, 0, letters, 0, other.size);
            size = other.size;
        }

        private void add(int number, int sort, int place, int letter) {
            if (size >= MOST_CHANGES) {
                return;
            }
            numbers[size] = number;
            sorts[size] = sort;
            places[size] = place;
            letters[size] = letter;
            size++;
        }

        private boolean hasPlace(int i) {
            return i >= 0 && i < size;
        }

        private boolean hasPair(int i) {
            return i >= 0 && i < size - 1;
        }

        private int find(int number) {
            for (int i = 0; i < size; i++) {
                if (numbers[i] == number) {
                    return i;
                }
            }
            return NONE;
        }

        private int asSet() {
            int set = 0;
            for (int i = 0; i < size; i++) {
                set |= 1 << numbers[i];
            }
            return set;
        }

        /** What comes of the change at i and the one behind it, turned round. */
        private int pairAt(int i) {
            return hasPair(i) ? turned(sorts[i], places[i], sorts[i + 1], places[i + 1]) : NONE;
        }

        private boolean swap(int i) {
            if (!hasPair(i)) {
                return false;
            }
            int pair = turned(sorts[i], places[i], sorts[i + 1], places[i + 1]);
            if (pair == NONE) {
                return false;
            }
            int number = numbers[i], sort = sorts[i], letter = letters[i];
            numbers[i] = numbers[i + 1];
            sorts[i] = sorts[i + 1];
            letters[i] = letters[i + 1];
            places[i] = pair / PAIR;
            numbers[i + 1] = number;
            sorts[i + 1] = sort;
            letters[i + 1] = letter;
            places[i + 1] = pair % PAIR;
            return true;
        }

        /** Whether the change at `from` can be brought back to `to`; nothing moves by asking. */
        private boolean canGoBehind(int from, int to) {
            if (!hasPlace(from) || !hasPlace(to)) {
                return false;
            }
            int place = places[from];
            for (int i = from + 1; i <= to; i++) {
                int pair = turned(sorts[from], place, sorts[i], places[i]);
                if (pair == NONE) {
                    return false;
                }
                place = pair % PAIR;
            }
            return true;
        }

        private boolean canGoToEnd(int from) {
            return canGoBehind(from, size - 1);
        }

        /** Stops where it can't go on: whoever may not see half of it asks first, or works on a copy. */
        private boolean bring(int from, int to) {
            boolean can = true;
            for (int i = from; i < to && can; i++) {
                can = swap(i);
            }
            for (int i = from; i > to && can; i--) {
                can = swap(i - 1);
            }
            return can;
        }

        /**
         * Puts what the change at `at` needs, of those from `front` on, and then itself, to `front`
         * and on; tells how many needs there are. The needs and the change stand side by side all
         * the while, so what is ahead of them goes past all or is one of them.
         */
        private int gather(int at, int front) {
            int last = at;
            for (int i = at - 1; i >= front; i--) {
                if (canGoBehind(i, last)) {
                    bring(i, last);
                    last--;
                }
            }
            return last - front;
        }

        /** Brings all of a set to the front in their order: how many, or NONE. */
        private int bringToFront(int set) {
            int front = 0;
            for (int i = 0; i < size; i++) {
                if ((set >> numbers[i] & 1) == 1) {
                    if (!bring(i, front)) {
                        return NONE;
                    }
                    front++;
                }
            }
            return front;
        }
    }

    /** All that undo and the images bring back. */
    private static final class Houses {
        private final History[] histories = new History[HOUSES];
        private final int[] held = new int[HOUSES];
        private final int[] clashes = new int[HOUSES];

        private Houses() {
            for (int h = 0; h < HOUSES; h++) {
                histories[h] = new History();
                held[h] = NONE;
                clashes[h] = NONE;
            }
        }

        private void clear() {
            for (int h = 0; h < HOUSES; h++) {
                histories[h].size = 0;
                held[h] = NONE;
                clashes[h] = NONE;
            }
        }

        private void copyFrom(Houses other) {
            for (int h = 0; h < HOUSES; h++) {
                histories[h].copyFrom(other.histories[h]);
                held[h] = other.held[h];
                clashes[h] = other.clashes[h];
            }
        }
    }

    /** A ring: the oldest row is written over when all are in use. */
    private static final class Past {
        private final Houses[] rows = new Houses[MOST_UNDONE];
        private int next, count;

        private Past() {
            for (int i = 0; i < MOST_UNDONE; i++) {
                rows[i] = new Houses();
            }
        }

        private void push(Houses now) {
            rows[next].copyFrom(now);
            next = (next + 1) % MOST_UNDONE;
            count = Math.min(count + 1, MOST_UNDONE);
        }

        private void pop(Houses now) {
            if (count == 0) {
                return;
            }
            next = (next + MOST_UNDONE - 1) % MOST_UNDONE;
            now.copyFrom(rows[next]);
            count--;
        }
    }

    /** A pull on copies, so that a refusal leaves the houses as they were. */
    private static final class Pulling {
        private final History ours = new History();
        private final History theirs = new History();
        private final int[] past = new int[MOST_CHANGES];
        private int front, coming;

        /** Both copies: what both have, then (theirs) what comes; false: it cannot be brought. */
        private boolean sortOut(History own, History other, int change) {
            int both = own.asSet() & other.asSet();
            ours.copyFrom(own);
            theirs.copyFrom(other);
            front = theirs.bringToFront(both);
            if (front == NONE || ours.bringToFront(both) == NONE) {
                return false;
            }
            coming = theirs.gather(theirs.find(change), front) + 1;
            return true;
        }

        private boolean hasRoom(int letters) {
            if (ours.size + coming > MOST_CHANGES) {
                return false;
            }
            int size = letters;
            for (int c = front; c < front + coming; c++) {
                size += theirs.sorts[c] == PUT_IN ? 1 : -1;
                if (size > MOST_LETTERS) {
                    return false;
                }
            }
            return true;
        }

        /** Each that comes goes past all that is ours alone: the one it clashes with, or NONE. */
        private int goPast() {
            System.arraycopy(ours.places, 0, past, 0, ours.size);
            for (int c = front; c < front + coming; c++) {
                for (int o = front; o < ours.size; o++) {
                    int pair = turned(opposite(ours.sorts[o]), past[o], theirs.sorts[c], theirs.places[c]);
                    if (pair == NONE) {
                        return ours.numbers[o];
                    }
                    theirs.places[c] = pair / PAIR;
                    past[o] = pair % PAIR;
                }
            }
            return NONE;
        }

        /** Whether all that comes fits, one by one; the text is written on by asking. */
        private boolean fits(Writing written) {
            for (int c = front; c < front + coming; c++) {
                if (!written.fits(theirs.sorts[c], theirs.places[c], theirs.letters[c])) {
                    return false;
                }
                written.apply(theirs.sorts[c], theirs.places[c], theirs.letters[c]);
            }
            return true;
        }

        private void giveTo(History own) {
            own.copyFrom(ours);
            for (int c = front; c < front + coming; c++) {
                own.add(theirs.numbers[c], theirs.sorts[c], theirs.places[c], theirs.letters[c]);
            }
        }
    }

    /**
     * Counts the orders that turning comes to. An order has the same places on whatever way one
     * comes to it, so each order is looked at once. Orders and places are packed, one number each,
     * to keep the rows small.
     */
    private static final class Orders {
        private static final int ORDER_BITS = 3, PLACE_BITS = 5;

        private final int[] found = new int[MOST_ORDERS];
        private final int[] places = new int[MOST_ORDERS];
        // Of which count each order was seen last: so no row has to be wiped ahead of a count.
        private final int[] seen = new int[MOST_ORDERS];
        private int counts, size;

        /** The history must have MOST_ORDERED changes or less. */
        private int count(History of) {
            counts++;
            size = 0;
            int order = 0, place = 0;
            for (int i = 0; i < of.size; i++) {
                order = with(order, i, ORDER_BITS, i);
                place = with(place, i, PLACE_BITS, of.places[i]);
            }
            note(order, place, of.size);
            for (int next = 0; next < size && next < MOST_ORDERS; next++) {
                for (int i = 0; i < of.size - 1; i++) {
                    lookRound(of, next, i);
                }
            }
            return size;
        }

        private void lookRound(History of, int next, int i) {
            int first = part(found[next], i, ORDER_BITS), second = part(found[next], i + 1, ORDER_BITS);
            int pair = turned(of.sorts[first], part(places[next], i, PLACE_BITS),
                of.sorts[second], part(places[next], i + 1, PLACE_BITS));
            if (pair == NONE) {
                return;
            }
            int order = with(with(found[next], i, ORDER_BITS, second), i + 1, ORDER_BITS, first);
            int place = with(with(places[next], i, PLACE_BITS, pair / PAIR), i + 1, PLACE_BITS, pair % PAIR);
            note(order, place, of.size);
        }

        private void note(int order, int place, int changes) {
            int rank = rankOf(order, changes);
            if (rank < 0 || rank >= MOST_ORDERS || size >= MOST_ORDERS || seen[rank] == counts) {
                return;
            }
            seen[rank] = counts;
            found[size] = order;
            places[size] = place;
            size++;
        }

        /** Every order of n changes has a number of its own below the factorial of n. */
        private static int rankOf(int order, int changes) {
            int rank = 0;
            for (int i = 0; i < changes; i++) {
                int smaller = 0;
                for (int j = i + 1; j < changes; j++) {
                    if (part(order, j, ORDER_BITS) < part(order, i, ORDER_BITS)) {
                        smaller++;
                    }
                }
                rank = rank * (changes - i) + smaller;
            }
            return rank;
        }

        private static int part(int packed, int i, int bits) {
            return packed >> i * bits & (1 << bits) - 1;
        }

        private static int with(int packed, int i, int bits, int value) {
            return packed & ~((1 << bits) - 1 << i * bits) | value << i * bits;
        }
    }

    private static final class Lots {
        private static final long FACTOR = 16807L, DIVISOR = 2147483647L;

        private long x = 1;

        private void start(int seed) {
            x = seed;
        }

        private int next(int bound) {
            x = x * FACTOR % DIVISOR;
            return bound < 1 ? 0 : (int) (x % bound);
        }
    }
}
