import java.util.Random;
import java.util.TreeSet;

/** Long mixed runs, each call beside a model that holds the marked cards in sets. */
public final class ModelTest {
    private static final int RUNS = 400;
    private static final int CALLS = 512;

    /** The document's words again, in another form than the class: sets, and a card for each cell asked one by one. */
    private static final class Model {
        private int cells = 1024;
        private final TreeSet<Integer> dirty = new TreeSet<>();
        private final TreeSet<Integer> saved = new TreeSet<>();

        int space(int n) {
            argument(n >= 1 && n <= 16384);
            int before = cells;
            clear();
            cells = n;
            return before;
        }

        int write(int cell) {
            index(isCell(cell));
            dirty.add(cell / 32);
            return cell / 32;
        }

        int cover(int cell, int size) {
            index(size >= 1 && isCell(cell) && isCell((long) cell + size - 1));
            TreeSet<Integer> these = new TreeSet<>();
            for (int i = 0; i < size; i++) {
                these.add((cell + i) / 32);
            }
            saved.addAll(these);
            return these.size();
        }

        boolean clean(int card, boolean saves) {
            index(isCard(card));
            boolean was = dirty.remove(card);
            if (was && saves) {
                saved.add(card);
            }
            return was;
        }

        boolean unsave(int card) {
            index(isCard(card));
            return saved.remove(card);
        }

        int card(int card) {
            index(isCard(card));
            return (dirty.contains(card) ? 1 : 0) + (saved.contains(card) ? 2 : 0);
        }

        int next(TreeSet<Integer> of, int card) {
            argument(card >= 0);
            Integer found = of.ceiling(card);
            return found == null ? -1 : found;
        }

        int clear() {
            TreeSet<Integer> all = new TreeSet<>(dirty);
            all.addAll(saved);
            dirty.clear();
            saved.clear();
            return all.size();
        }

        int count(int what) {
            argument(what >= 0 && what <= 3);
            int[] counts = {cells, (cells + 31) / 32, dirty.size(), saved.size()};
            return counts[what];
        }

        private boolean isCell(long cell) {
            return cell >= 0 && cell < cells;
        }

        private boolean isCard(int card) {
            return card >= 0 && isCell(32L * card);
        }

        private static void argument(boolean good) {
            if (!good) {
                throw new IllegalArgumentException();
            }
        }

        private static void index(boolean good) {
            if (!good) {
                throw new IndexOutOfBoundsException();
            }
        }
    }

    private static final Checks checks = new Checks();

    public static void main(String[] args) {
        for (int run = 0; run < RUNS; run++) {
            // A fixed seed: the same calls every time.
            oneRun(run, new Random(run));
        }
        checks.end();
    }

    private static void oneRun(int run, Random random) {
        CardBook book = new CardBook();
        Model model = new Model();
        for (int i = 0; i < CALLS; i++) {
            oneCall("run " + run + ", call " + i + ": ", book, model, random);
        }
    }

    private static void oneCall(String at, CardBook book, Model model, Random random) {
        int cell = near(random, model.cells);
        int card = near(random, (model.cells + 31) / 32);
        boolean saves = random.nextBoolean();
        int kind = random.nextInt(100);
        if (kind < 3) {
            int n = random.nextInt(3) == 0 ? near(random, 16384) : near(random, 200);
            same(at + "space(" + n + ")", () -> book.space(n), () -> model.space(n));
        } else if (kind < 5) {
            same(at + "clear()", book::clear, model::clear);
        } else if (kind < 30) {
            same(at + "write(" + cell + ")", () -> book.write(cell), () -> model.write(cell));
        } else if (kind < 38) {
            int size = random.nextInt(4) == 0 ? near(random, model.cells - cell) : random.nextInt(70) - 1;
            same(at + "cover(" + cell + ", " + size + ")", () -> book.cover(cell, size), () -> model.cover(cell, size));
        } else if (kind < 50) {
            same(at + "clean(" + card + ", " + saves + ")", () -> book.clean(card, saves), () -> model.clean(card, saves));
        } else if (kind < 60) {
            same(at + "unsave(" + card + ")", () -> book.unsave(card), () -> model.unsave(card));
        } else if (kind < 72) {
            same(at + "card(" + card + ")", () -> book.card(card), () -> model.card(card));
        } else if (kind < 81) {
            same(at + "nextDirty(" + card + ")", () -> book.nextDirty(card), () -> model.next(model.dirty, card));
        } else if (kind < 90) {
            same(at + "nextSaved(" + card + ")", () -> book.nextSaved(card), () -> model.next(model.saved, card));
        } else {
            int what = random.nextInt(6) - 1;
            same(at + "count(" + what + ")", () -> book.count(what), () -> model.count(what));
        }
    }

    private static void same(String what, Checks.Call asked, Checks.Call due) {
        checks.equal(what, Checks.outcome(asked), Checks.outcome(due));
    }

    /** Mostly 0 .. limit - 1; now and then an edge of it, or a number far outside. */
    private static int near(Random random, int limit) {
        int inside = random.nextInt(Math.max(1, limit));
        switch (random.nextInt(24)) {
            case 0:
                return 0;
            case 1:
                return limit - 1;
            case 2:
                return limit;
            case 3:
                return -1;
            case 4:
                return random.nextInt();
            case 5:
                return random.nextBoolean() ? Integer.MAX_VALUE : Integer.MIN_VALUE;
            default:
                return inside;
        }
    }
}
