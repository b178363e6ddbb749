import java.util.Random;

/** Runs of calls by chance, each answer and now and then all that can be told held against the Model. */
public final class ModelTest {
    private static final int RUNS = 4000, CALLS = 120;
    private static final int[] ODD = {Integer.MIN_VALUE, -1000000001, -2, -1, 24, 31, 32, 1000, Integer.MAX_VALUE};

    private final Due due;
    private final Random random;
    private final PatchHouse x = new PatchHouse();
    private final Model m = new Model();
    private final StringBuilder log = new StringBuilder();

    private ModelTest(Due due, long seed) {
        this.due = due;
        this.random = new Random(seed);
    }

    public static void main(String[] args) {
        Due due = new Due();
        for (int run = 0; run < RUNS && due.wrong() < 5; run++) {
            new ModelTest(due, run).run();
        }
        due.end("ModelTest");
    }

    private void run() {
        int letters = random.nextInt(13);
        for (int i = 0; i < letters; i++) {
            int letter = letter();
            same("begin(" + letter + ")", x.begin(letter), m.begin(letter));
        }
        int busy = random.nextInt(3);
        for (int k = 0; k < CALLS; k++) {
            step(busy);
            if (random.nextInt(8) == 0) {
                all();
            }
        }
        all();
    }

    /** One number in forty is far out of what is asked for. */
    private int pick(int bound) {
        return random.nextInt(40) == 0 ? ODD[random.nextInt(ODD.length)] : random.nextInt(bound);
    }

    private int letter() {
        return random.nextInt(40) == 0 ? (random.nextBoolean() ? 96 : 123) : 97 + random.nextInt(4);
    }

    private int number() {
        return pick(Math.max(1, m.told(1) + 1));
    }

    private int place(int house) {
        int length = house == 0 || house == 1 ? m.house(house, 0) : 3;
        return pick(length + 2);
    }

    private void step(int busy) {
        int lot = random.nextInt(100);
        int h = pick(2);
        if (lot < 22) {
            int sort = busy == 2 && random.nextInt(4) > 0 ? 0 : pick(2), p = place(h), l = letter();
            same("record(" + h + ", " + sort + ", " + p + ", " + l + ")", x.record(h, sort, p, l), m.record(h, sort, p, l));
        } else if (lot < 47) {
            int c = number();
            same("pull(" + h + ", " + c + ")", x.pull(h, c), m.pull(h, c));
        } else if (lot < 57) {
            int c = number();
            same("takeOff(" + h + ", " + c + ")", x.takeOff(h, c), m.takeOff(h, c));
        } else if (lot < 67) {
            int i = pick(8);
            same("turn(" + h + ", " + i + ")", x.turn(h, i), m.turn(h, i));
        } else if (lot < 72) {
            same("undo()", x.undo(), m.undo());
        } else if (lot < 75 && busy == 1) {
            int n = 1 + pick(6), seed = pick(1000000);
            same("drift(" + n + ", " + seed + ")", x.drift(n, seed), m.drift(n, seed));
        } else if (lot < 90) {
            shelfStep(h);
        } else if (lot < 93) {
            int i = pick(2);
            same("keep(" + i + ")", x.keep(i), m.keep(i));
        } else if (lot < 97) {
            int i = pick(2);
            same("goBack(" + i + ")", x.goBack(i), m.goBack(i));
        } else if (lot == 97 && random.nextInt(4) == 0) {
            same("anew()", x.anew(), m.anew());
        } else {
            int l = letter();
            same("begin(" + l + ")", x.begin(l), m.begin(l));
        }
    }

    private void shelfStep(int h) {
        int s = pick(4), i = pick(12);
        switch (random.nextInt(5)) {
            case 0 -> same("shelve(" + s + ", " + h + ", " + i + ")", x.shelve(s, h, i), m.shelve(s, h, i));
            case 1 -> same("shelveText(" + s + ", " + h + ")", x.shelveText(s, h), m.shelveText(s, h));
            case 2 -> same("empty(" + s + ")", x.empty(s), m.empty(s));
            default -> same("oppose(" + s + ", " + h + ")", x.oppose(s, h), m.oppose(s, h));
        }
    }

    private void same(String call, int got, int want) {
        log.append(call).append('=').append(want).append("; ");
        if (got != want) {
            System.out.println("after " + log);
        }
        due.is(call, got, want);
    }

    private void ask(String call, int got, int want) {
        if (got != want) {
            System.out.println("after " + log);
        }
        due.is(call, got, want);
    }

    private void all() {
        for (int what = -1; what <= 5; what++) {
            ask("told " + what, x.told(what), m.told(what));
        }
        for (int h = -1; h <= 2; h++) {
            for (int what = -1; what <= 7; what++) {
                ask("house " + h + " " + what, x.house(h, what), m.house(h, what));
            }
            for (int i = -1; i <= 30; i++) {
                ask("text " + h + " " + i, x.text(h, i), m.text(h, i));
            }
            for (int i = -1; i <= 16; i++) {
                for (int what = -1; what <= 5; what++) {
                    ask("history " + h + " " + i + " " + what, x.history(h, i, what), m.history(h, i, what));
                }
            }
            for (int c = -1; c <= 24; c++) {
                for (int what = -1; what <= 4; what++) {
                    ask("change " + h + " " + c + " " + what, x.change(h, c, what), m.change(h, c, what));
                }
            }
        }
        allShelves();
    }

    private void allShelves() {
        for (int s = -1; s <= 4; s++) {
            for (int what = -1; what <= 4; what++) {
                ask("shelved " + s + " " + what, x.shelved(s, what), m.shelved(s, what));
            }
            for (int i = -1; i <= 30; i++) {
                ask("letter " + s + " " + i, x.letter(s, i), m.letter(s, i));
            }
            for (int h = -1; h <= 2; h++) {
                ask("isText " + s + " " + h, x.isText(s, h), m.isText(s, h));
            }
        }
    }
}
