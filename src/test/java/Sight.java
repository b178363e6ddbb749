/** What an object tells, written as texts that can be compared. */
final class Sight {
    private static final int NONE = -1;

    private Sight() {
    }

    static String text(PatchHouse x, int house) {
        StringBuilder all = new StringBuilder();
        for (int i = 0; i < 40; i++) {
            int letter = x.text(house, i);
            if (letter == NONE) {
                break;
            }
            all.append((char) letter);
        }
        return all.toString();
    }

    /** Number, + or - (put in, taken out) and place of each change, with blanks between. */
    static String history(PatchHouse x, int house) {
        StringBuilder all = new StringBuilder();
        int size = x.house(house, 1);
        for (int i = 0; i < size; i++) {
            all.append(i == 0 ? "" : " ").append(x.history(house, i, 0)).append(x.history(house, i, 1) == 0 ? "+" : "-")
                .append(x.history(house, i, 2));
        }
        return all.toString();
    }

    /** What undo and the images bring back: histories with their letters, what is held. */
    static String houses(PatchHouse x) {
        StringBuilder all = new StringBuilder();
        for (int h = 0; h < 2; h++) {
            all.append("house ").append(h).append(": ").append(history(x, h)).append(" letters ");
            int size = x.house(h, 1);
            for (int i = 0; i < size; i++) {
                all.append((char) x.history(h, i, 3));
            }
            all.append(" held ").append(x.house(h, 5)).append(" clash ").append(x.house(h, 6)).append("; ");
        }
        return all.toString();
    }

    /** All that can be told without changing anything; it takes some 400 calls at most of the 512. */
    static String all(PatchHouse x) {
        StringBuilder all = new StringBuilder(houses(x)).append("told");
        for (int what = 0; what <= 4; what++) {
            all.append(' ').append(x.told(what));
        }
        for (int h = 0; h < 2; h++) {
            all.append("; house ").append(h).append(' ').append(text(x, h));
            for (int what = 0; what <= 6; what++) {
                all.append(' ').append(x.house(h, what));
            }
            int size = x.house(h, 1);
            for (int i = 0; i < size; i++) {
                int change = x.history(h, i, 0);
                all.append(' ').append(x.history(h, i, 4)).append(x.change(h, change, 0)).append(',')
                    .append(x.change(h, change, 1)).append(',').append(x.change(h, change, 3));
            }
        }
        for (int s = 0; s < 4; s++) {
            all.append("; shelf ").append(s).append(' ').append(shelf(x, s));
        }
        return all.toString();
    }

    private static String shelf(PatchHouse x, int s) {
        StringBuilder all = new StringBuilder();
        for (int what = 0; what <= 3; what++) {
            all.append(' ').append(x.shelved(s, what));
        }
        all.append(' ').append(x.isText(s, 0)).append(' ').append(x.isText(s, 1)).append(' ');
        for (int i = 0; i < 40; i++) {
            int letter = x.letter(s, i);
            if (letter < 0) {
                return all.append(letter).toString();
            }
            all.append((char) letter);
        }
        return all.toString();
    }
}
