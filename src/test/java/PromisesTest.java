/** Each promise by itself: ordinary inputs, the edges that the document names, and wrong inputs. */
public final class PromisesTest {
    private static final Class<IndexOutOfBoundsException> INDEX = IndexOutOfBoundsException.class;
    private static final Class<IllegalArgumentException> ARGUMENT = IllegalArgumentException.class;
    private static final int MIN = Integer.MIN_VALUE;
    private static final int MAX = Integer.MAX_VALUE;

    private static final Checks checks = new Checks();

    public static void main(String[] args) {
        newObject();
        space();
        write();
        cover();
        clean();
        unsave();
        card();
        nextDirty();
        nextSaved();
        clear();
        count();
        checks.end();
    }

    private static void due(String what, Object got, Object due) {
        checks.equal(what, got, due);
    }

    /** 70 cells: cards 0 and 1 are full, card 2 has 6 cells; card 0 is dirty, card 1 both, card 2 saved. */
    private static CardBook threeCards() {
        CardBook book = new CardBook();
        book.space(70);
        book.write(3);
        book.write(40);
        book.cover(63, 2);
        return book;
    }

    private static void newObject() {
        due("NONE", CardBook.NONE, -1);
        due("a new book", Checks.show(new CardBook()), "1024 32 0 0 " + "0".repeat(32));
        due("nextDirty of a new book", new CardBook().nextDirty(0), -1);
        due("nextSaved of a new book", new CardBook().nextSaved(0), -1);
        CardBook one = new CardBook();
        CardBook other = new CardBook();
        one.write(5);
        one.space(7);
        due("a book beside another", Checks.show(other), "1024 32 0 0 " + "0".repeat(32));
    }

    private static void space() {
        CardBook book = threeCards();
        due("space(70) again", book.space(70), 70);
        due("after space(70) again", Checks.show(book), "70 3 0 0 000");
        book.write(69);
        book.cover(0, 70);
        due("space(1)", book.space(1), 70);
        due("after space(1)", Checks.show(book), "1 1 0 0 0");
        due("space(96)", book.space(96), 1);
        due("after a smaller space, nothing is left behind", Checks.show(book), "96 3 0 0 000");
        due("space(16384)", book.space(16384), 96);
        book.cover(0, 16384);
        book.write(16383);
        due("space(32)", book.space(32), 16384);
        due("after space(32)", Checks.show(book), "32 1 0 0 0");
        due("space(16384) again", book.space(16384), 32);
        due("no dirty one is left behind", book.nextDirty(0), -1);
        due("no saved one is left behind", book.nextSaved(0), -1);
        due("count(0) of the largest", book.count(0), 16384);
        due("count(1) of the largest", book.count(1), 512);
        for (int n : new int[] {0, -1, 16385, MIN, MAX}) {
            CardBook marked = threeCards();
            checks.refused("space(" + n + ")", marked, ARGUMENT, () -> marked.space(n));
        }
    }

    private static void write() {
        CardBook book = new CardBook();
        book.space(70);
        due("write(31)", book.write(31), 0);
        due("after write(31)", Checks.show(book), "70 3 1 0 100");
        due("write(0)", book.write(0), 0);
        due("write(32)", book.write(32), 1);
        due("write(69)", book.write(69), 2);
        due("after the writes", Checks.show(book), "70 3 3 0 111");
        book.space(70);
        book.cover(0, 1);
        due("write(1)", book.write(1), 0);
        due("a saved card that is written", Checks.show(book), "70 3 1 1 300");
        for (int cell : new int[] {-1, 70, 95, 96, 16384, MIN, MAX}) {
            CardBook marked = threeCards();
            checks.refused("write(" + cell + ")", marked, INDEX, () -> marked.write(cell));
        }
        everyCard();
    }

    private static void everyCard() {
        CardBook book = new CardBook();
        book.space(16384);
        for (int c = 0; c < 510; c++) {
            due("write in card " + c, book.write(32 * c + c % 32), c);
        }
        due("count(2) as the 512th call", book.count(2), 510);
    }

    private static void cover() {
        covers(0, 1, 1, "70 3 0 1 200");
        covers(0, 32, 1, "70 3 0 1 200");
        covers(0, 33, 2, "70 3 0 2 220");
        covers(31, 1, 1, "70 3 0 1 200");
        covers(31, 2, 2, "70 3 0 2 220");
        covers(32, 32, 1, "70 3 0 1 020");
        covers(31, 34, 3, "70 3 0 3 222");
        covers(0, 70, 3, "70 3 0 3 222");
        covers(64, 6, 1, "70 3 0 1 002");
        covers(69, 1, 1, "70 3 0 1 002");
        CardBook book = threeCards();
        due("cover of cards that are saved", book.cover(10, 50), 2);
        due("after it", Checks.show(book), "70 3 2 3 332");
        int[][] wrong = {{0, 0}, {5, -1}, {5, MIN}, {0, 71}, {69, 2}, {1, 70}, {70, 1}, {70, 0}, {-1, 1}, {-1, 2},
            {-5, 20}, {MIN, 1}, {MIN, MIN}, {MIN, MAX}, {MAX, 1}, {MAX, MAX}, {1, MAX}, {69, MAX}, {0, MAX}};
        for (int[] w : wrong) {
            CardBook marked = threeCards();
            checks.refused("cover(" + w[0] + ", " + w[1] + ")", marked, INDEX, () -> marked.cover(w[0], w[1]));
        }
    }

    private static void covers(int cell, int size, int due, String after) {
        CardBook book = new CardBook();
        book.space(70);
        due("cover(" + cell + ", " + size + ")", book.cover(cell, size), due);
        due("after cover(" + cell + ", " + size + ")", Checks.show(book), after);
    }

    private static void clean() {
        cleans(0, false, true, "70 3 1 2 032");
        cleans(0, true, true, "70 3 1 3 232");
        cleans(1, false, true, "70 3 1 2 122");
        cleans(1, true, true, "70 3 1 2 122");
        cleans(2, false, false, "70 3 2 2 132");
        cleans(2, true, false, "70 3 2 2 132");
        CardBook book = new CardBook();
        due("clean(31, true) of a new book", book.clean(31, true), false);
        due("it saves nothing that was not dirty", book.card(31), 0);
        for (int card : new int[] {-1, 3, 512, MIN, MAX}) {
            CardBook marked = threeCards();
            checks.refused("clean(" + card + ", true)", marked, INDEX, () -> marked.clean(card, true));
            checks.refused("clean(" + card + ", false)", marked, INDEX, () -> marked.clean(card, false));
        }
    }

    private static void cleans(int card, boolean saves, boolean due, String after) {
        CardBook book = threeCards();
        String call = "clean(" + card + ", " + saves + ")";
        due(call, book.clean(card, saves), due);
        due("after " + call, Checks.show(book), after);
        due(call + " again", book.clean(card, saves), false);
        due("after " + call + " again", Checks.show(book), after);
    }

    private static void unsave() {
        unsaves(0, false, "70 3 2 2 132");
        unsaves(1, true, "70 3 2 1 112");
        unsaves(2, true, "70 3 2 1 130");
        due("unsave(31) of a new book", new CardBook().unsave(31), false);
        for (int card : new int[] {-1, 3, 512, MIN, MAX}) {
            CardBook marked = threeCards();
            checks.refused("unsave(" + card + ")", marked, INDEX, () -> marked.unsave(card));
        }
    }

    private static void unsaves(int card, boolean due, String after) {
        CardBook book = threeCards();
        due("unsave(" + card + ")", book.unsave(card), due);
        due("after unsave(" + card + ")", Checks.show(book), after);
        due("unsave(" + card + ") again", book.unsave(card), false);
        due("after unsave(" + card + ") again", Checks.show(book), after);
    }

    private static void card() {
        CardBook book = threeCards();
        due("card(0)", book.card(0), 1);
        due("card(1)", book.card(1), 3);
        due("card(2)", book.card(2), 2);
        due("card(31) of a new book", new CardBook().card(31), 0);
        for (int card : new int[] {-1, 3, 512, MIN, MAX}) {
            CardBook marked = threeCards();
            checks.refused("card(" + card + ")", marked, INDEX, () -> marked.card(card));
        }
        lastCard(32, 0);
        lastCard(33, 1);
        lastCard(64, 1);
        lastCard(65, 2);
        lastCard(16384, 511);
    }

    private static void lastCard(int cells, int last) {
        CardBook book = new CardBook();
        book.space(cells);
        due("the last card of " + cells, book.card(last), 0);
        due("the one behind it", Checks.outcome(() -> book.card(last + 1)), "throws.IndexOutOfBoundsException");
    }

    private static void nextDirty() {
        CardBook book = new CardBook();
        book.space(16384);
        book.cover(0, 16384);
        due("nextDirty(0) where all are saved", book.nextDirty(0), -1);
        book.write(32 * 5);
        book.write(16383);
        int[][] answers = {{0, 5}, {5, 5}, {6, 511}, {511, 511}, {512, -1}, {513, -1}, {MAX, -1}};
        for (int[] a : answers) {
            due("nextDirty(" + a[0] + ")", book.nextDirty(a[0]), a[1]);
        }
        for (int card : new int[] {-1, MIN}) {
            CardBook marked = threeCards();
            checks.refused("nextDirty(" + card + ")", marked, ARGUMENT, () -> marked.nextDirty(card));
        }
        CardBook asked = threeCards();
        due("nextDirty(1)", asked.nextDirty(1), 1);
        due("nextDirty(2)", asked.nextDirty(2), -1);
        due("after nextDirty", Checks.show(asked), "70 3 2 2 132");
    }

    private static void nextSaved() {
        CardBook book = new CardBook();
        book.space(16384);
        for (int c = 0; c < 300; c++) {
            book.write(32 * c);
        }
        due("nextSaved(0) where many are dirty", book.nextSaved(0), -1);
        book.cover(32 * 5, 1);
        book.cover(16383, 1);
        int[][] answers = {{0, 5}, {5, 5}, {6, 511}, {511, 511}, {512, -1}, {513, -1}, {MAX, -1}};
        for (int[] a : answers) {
            due("nextSaved(" + a[0] + ")", book.nextSaved(a[0]), a[1]);
        }
        for (int card : new int[] {-1, MIN}) {
            CardBook marked = threeCards();
            checks.refused("nextSaved(" + card + ")", marked, ARGUMENT, () -> marked.nextSaved(card));
        }
        CardBook asked = threeCards();
        due("nextSaved(0)", asked.nextSaved(0), 1);
        due("nextSaved(2)", asked.nextSaved(2), 2);
        due("nextSaved(3)", asked.nextSaved(3), -1);
        due("after nextSaved", Checks.show(asked), "70 3 2 2 132");
    }

    private static void clear() {
        due("clear() of a new book", new CardBook().clear(), 0);
        CardBook book = threeCards();
        due("clear()", book.clear(), 3);
        due("after clear()", Checks.show(book), "70 3 0 0 000");
        due("clear() again", book.clear(), 0);
        CardBook large = new CardBook();
        large.space(16384);
        large.cover(0, 16384);
        large.write(7);
        due("clear() of all", large.clear(), 512);
        due("nextSaved(0) after it", large.nextSaved(0), -1);
        due("nextDirty(0) after it", large.nextDirty(0), -1);
        due("count(0) after it", large.count(0), 16384);
    }

    private static void count() {
        CardBook book = threeCards();
        book.clean(0, false);
        due("count(0)", book.count(0), 70);
        due("count(1)", book.count(1), 3);
        due("count(2)", book.count(2), 1);
        due("count(3)", book.count(3), 2);
        int[][] cards = {{1, 1}, {31, 1}, {32, 1}, {33, 2}, {64, 2}, {65, 3}, {16352, 511}, {16353, 512}, {16384, 512}};
        for (int[] c : cards) {
            book.space(c[0]);
            due("count(1) of " + c[0] + " cells", book.count(1), c[1]);
        }
        for (int what : new int[] {-1, 4, MIN, MAX}) {
            CardBook marked = threeCards();
            checks.refused("count(" + what + ")", marked, ARGUMENT, () -> marked.count(what));
        }
    }
}
