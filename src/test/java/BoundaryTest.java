/** A test for each boundary case that the document names: smallest, largest, empty, full, wrap-around, refused. */
public final class BoundaryTest {
    private static final Class<IndexOutOfBoundsException> INDEX = IndexOutOfBoundsException.class;
    private static final Class<IllegalArgumentException> ARGUMENT = IllegalArgumentException.class;
    private static final int MIN = Integer.MIN_VALUE;
    private static final int MAX = Integer.MAX_VALUE;
    private static final int LARGEST = 16384;

    /** Around one card, two cards, the first number of cells and the largest one. */
    private static final int[] SIZES = {1, 2, 31, 32, 33, 63, 64, 65, 1023, 1024, 1025, 16352, 16353, 16383, LARGEST};

    private static final int DIRTY = 1;
    private static final int SAVED = 2;

    private static final Checks checks = new Checks();

    interface Call {
        Object on(CardBook book);
    }

    public static void main(String[] args) {
        terms();
        newObject();
        space();
        write();
        cover();
        clean();
        unsave();
        card();
        nextDirty();
        nextSaved();
        clear();
        count();
        checks.end();
    }

    // ---- what the tests below share

    private static void due(String what, Object got, Object due) {
        checks.equal(what, got, due);
    }

    private static int cardsOf(int cells) {
        return (cells + 31) / 32;
    }

    private static CardBook bookOf(int cells) {
        CardBook book = new CardBook();
        book.space(cells);
        return book;
    }

    private static void mark(CardBook book, int cell, int marks) {
        if ((marks & DIRTY) != 0) {
            book.write(cell);
        }
        if ((marks & SAVED) != 0) {
            book.cover(cell, 1);
        }
    }

    /** The first and the last card bear these marks (they are one card where there are at most 32 cells). */
    private static CardBook markedAtEnds(int cells, int marks) {
        CardBook book = bookOf(cells);
        mark(book, 0, marks);
        mark(book, cells - 1, marks);
        return book;
    }

    /** All cards bear these marks; of the largest spaces only 400 can be dirty, or the book's 512 calls are spent. */
    private static CardBook markedAll(int cells, int marks) {
        CardBook book = bookOf(cells);
        if ((marks & SAVED) != 0) {
            book.cover(0, cells);
        }
        int last = cardsOf(cells) - 1;
        for (int c = Math.max(0, last - 399); c <= last && (marks & DIRTY) != 0; c++) {
            book.write(32 * c);
        }
        return book;
    }

    private static String unmarked(int cells) {
        return cells + " cells " + cardsOf(cells) + " cards 0 dirty 0 saved";
    }

    /** Throws this, and neither the cards that there are nor those that a larger space brings show a change. */
    private static void refused(int cells, String name, Class<? extends Exception> due, Call call) {
        for (int marks = 0; marks <= 3; marks++) {
            String what = name + " of " + cells + " cells with marks " + marks;
            CardBook book = markedAtEnds(cells, marks);
            String before = Checks.marks(book);
            due(what, Checks.outcome(() -> call.on(book)), "throws." + due.getSimpleName());
            due("the marks after " + what, Checks.marks(book), before);
            due("the cells after " + what, book.space(LARGEST), cells);
            due("the largest space after " + what, Checks.marks(book), unmarked(LARGEST));
        }
    }

    interface CardCall {
        Object on(CardBook book, int card);
    }

    /** There is no such card: below the first, behind the last, behind the largest space's last. */
    private static void refusedCards(String name, CardCall call) {
        for (int cells : SIZES) {
            for (int card : new int[] {-1, MIN, cardsOf(cells), cardsOf(cells) + 1, 512, MAX}) {
                refused(cells, name + " of card " + card, INDEX, book -> call.on(book, card));
            }
        }
    }

    // ---- Terms: "CARD c has the cells 32 * c .. 32 * c + 31 (the last one perhaps fewer)."

    private static void terms() {
        eachCellHasItsCard();
        theLastCardHasPerhapsFewerCells();
        the512thCallIsAnswered();
    }

    private static void eachCellHasItsCard() {
        for (int c = 0; c < 512; c++) {
            CardBook book = bookOf(LARGEST);
            for (int cell = 32 * c; cell <= 32 * c + 31; cell++) {
                due("write(" + cell + ")", book.write(cell), c);
                due("cover(" + cell + ", 1)", book.cover(cell, 1), 1);
            }
            due("the cells of card " + c, Checks.marks(book),
                "16384 cells 512 cards 1 dirty " + c + " 1 saved " + c);
        }
    }

    private static void theLastCardHasPerhapsFewerCells() {
        for (int cells = 1; cells <= LARGEST; cells++) {
            CardBook book = bookOf(cells);
            int last = cardsOf(cells) - 1;
            int n = cells;
            due("count(1) of " + n, book.count(1), last + 1);
            due("the last card of " + n, book.card(last), 0);
            due("behind it", Checks.outcome(() -> book.card(last + 1)), "throws.IndexOutOfBoundsException");
            due("the last cell of " + n, book.write(n - 1), last);
            due("behind it", Checks.outcome(() -> book.write(n)), "throws.IndexOutOfBoundsException");
            due("the last card's cells of " + n, book.cover(32 * last, n - 32 * last), 1);
            due("one more", Checks.outcome(() -> book.cover(32 * last, n - 32 * last + 1)),
                "throws.IndexOutOfBoundsException");
        }
    }

    /** "An object is used for at most 512 calls": the last of these is answered as the first is. */
    private static void the512thCallIsAnswered() {
        Call[] calls = {b -> b.space(5), b -> b.write(1023), b -> b.cover(0, 1024), b -> b.clean(31, true),
            b -> b.unsave(30), b -> b.card(31), b -> b.nextDirty(3), b -> b.nextSaved(3), b -> b.clear(),
            b -> b.count(2), b -> b.write(1024), b -> b.space(0)};
        String[] answers = {"1024", "31", "32", "true", "true", "1", "31", "30", "2", "1",
            "throws.IndexOutOfBoundsException", "throws.IllegalArgumentException"};
        for (int i = 0; i < calls.length; i++) {
            Call last = calls[i];
            CardBook book = new CardBook();
            book.write(1000);
            for (int n = 2; n <= 510; n++) {
                Checks.outcome(() -> book.write(-1));
            }
            book.cover(960, 1);
            due("call " + i + " as the 512th", Checks.outcome(() -> last.on(book)), answers[i]);
        }
    }

    // ---- Promise 1: "1024 cells, no card dirty or saved."

    private static void newObject() {
        aNewBookHas1024Cells();
        aNewBookHasNoMarks();
        aNewBookIsNotMarkedByAnother();
    }

    private static void aNewBookHas1024Cells() {
        due("count(0) of a new book", new CardBook().count(0), 1024);
        due("count(1) of a new book", new CardBook().count(1), 32);
        due("space(1) of a new book", new CardBook().space(1), 1024);
        due("write(1023) of a new book", new CardBook().write(1023), 31);
        due("cover(0, 1024) of a new book", new CardBook().cover(0, 1024), 32);
        due("write(1024) of a new book", Checks.outcome(() -> new CardBook().write(1024)),
            "throws.IndexOutOfBoundsException");
        due("card(32) of a new book", Checks.outcome(() -> new CardBook().card(32)),
            "throws.IndexOutOfBoundsException");
        due("cover(0, 1025) of a new book", Checks.outcome(() -> new CardBook().cover(0, 1025)),
            "throws.IndexOutOfBoundsException");
    }

    private static void aNewBookHasNoMarks() {
        due("a new book's cards", Checks.show(new CardBook()), "1024 32 0 0 " + "0".repeat(32));
        due("a new book's marks", Checks.marks(new CardBook()), unmarked(1024));
        due("clear() of a new book", new CardBook().clear(), 0);
        for (int c = 0; c < 32; c++) {
            due("clean of a new book's card " + c, new CardBook().clean(c, true), false);
            due("unsave of a new book's card " + c, new CardBook().unsave(c), false);
        }
    }

    private static void aNewBookIsNotMarkedByAnother() {
        CardBook other = new CardBook();
        CardBook marked = new CardBook();
        marked.write(1023);
        marked.cover(0, 1024);
        due("a book made before", Checks.marks(other), unmarked(1024));
        due("a book made behind", Checks.marks(new CardBook()), unmarked(1024));
    }

    // ---- Promise 2: "There are n cells from now on, no card is dirty or saved: how many cells there were.
    //      IllegalArgumentException: n is not 1 .. 16384."

    private static void space() {
        spaceOfTheSmallest();
        spaceOfTheLargest();
        for (int cells : SIZES) {
            spaceTooSmall(cells);
            spaceTooLarge(cells);
            for (int then : SIZES) {
                spaceUnmarks(cells, then);
            }
        }
    }

    private static void spaceOfTheSmallest() {
        CardBook book = new CardBook();
        due("space(1)", book.space(1), 1024);
        due("after space(1)", Checks.marks(book), unmarked(1));
        due("write(0) of one cell", book.write(0), 0);
        due("space(1) again", book.space(1), 1);
        due("after space(1) again", Checks.marks(book), unmarked(1));
    }

    private static void spaceOfTheLargest() {
        CardBook book = new CardBook();
        due("space(16384)", book.space(LARGEST), 1024);
        due("after space(16384)", Checks.marks(book), unmarked(LARGEST));
        due("write(16383)", book.write(16383), 511);
        due("space(16384) again", book.space(LARGEST), LARGEST);
        due("after space(16384) again", Checks.marks(book), unmarked(LARGEST));
    }

    private static void spaceTooSmall(int cells) {
        for (int n : new int[] {0, -1, -32, -1024, MIN}) {
            refused(cells, "space(" + n + ")", ARGUMENT, book -> book.space(n));
        }
    }

    private static void spaceTooLarge(int cells) {
        for (int n : new int[] {16385, 16416, 32768, MAX}) {
            refused(cells, "space(" + n + ")", ARGUMENT, book -> book.space(n));
        }
    }

    /** More cells than before, fewer, and as many; and what a smaller space hides does not come back. */
    private static void spaceUnmarks(int cells, int then) {
        for (int marks = DIRTY; marks <= (DIRTY | SAVED); marks++) {
            String what = "space(" + then + ") behind " + cells + " cells with marks " + marks;
            CardBook book = markedAll(cells, marks);
            due(what, book.space(then), cells);
            due("after " + what, Checks.marks(book), unmarked(then));
            due("the first card after " + what, book.card(0), 0);
            due("the last card after " + what, book.card(cardsOf(then) - 1), 0);
            due("back from " + what, book.space(cells), then);
            due("after the way back from " + what, Checks.marks(book), unmarked(cells));
            due("the largest after " + what, book.space(LARGEST), cells);
            due("after the largest after " + what, Checks.marks(book), unmarked(LARGEST));
        }
    }

    // ---- Promise 3: "A cell was written: its card is dirty: that card's number. IndexOutOfBoundsException."

    private static void write() {
        for (int cells : SIZES) {
            writeOfTheFirstCell(cells);
            writeOfTheLastCell(cells);
            writeOfNoCell(cells);
        }
        writeOfACardThatIsMarked();
    }

    private static void writeOfTheFirstCell(int cells) {
        CardBook book = bookOf(cells);
        due("write(0) of " + cells, book.write(0), 0);
        due("after write(0) of " + cells, Checks.marks(book),
            cells + " cells " + cardsOf(cells) + " cards 1 dirty 0 0 saved");
    }

    private static void writeOfTheLastCell(int cells) {
        CardBook book = bookOf(cells);
        int last = cardsOf(cells) - 1;
        due("write of the last of " + cells, book.write(cells - 1), last);
        due("after write of the last of " + cells, Checks.marks(book),
            cells + " cells " + cardsOf(cells) + " cards 1 dirty " + last + " 0 saved");
    }

    private static void writeOfNoCell(int cells) {
        // 32 * cards is the first cell behind the last card, also where that card has fewer than 32 cells.
        for (int cell : new int[] {-1, -32, MIN, cells, 32 * cardsOf(cells), LARGEST, MAX}) {
            refused(cells, "write(" + cell + ")", INDEX, book -> book.write(cell));
        }
    }

    private static void writeOfACardThatIsMarked() {
        int[] after = {1, 1, 3, 3};
        for (int marks = 0; marks <= 3; marks++) {
            CardBook book = markedAtEnds(1024, marks);
            due("write of a card with marks " + marks, book.write(31), 0);
            due("the card after it", book.card(0), after[marks]);
        }
    }

    // ---- Promise 4: "All cards with one of so many cells from a cell on become saved: how many these are.
    //      IndexOutOfBoundsException: size is below 1, or one of these cells is none."

    private static void cover() {
        for (int cells : SIZES) {
            coverOfAllCells(cells);
            coverOfOneCell(cells, 0);
            coverOfOneCell(cells, cells - 1);
            coverOfTooFew(cells);
            coverBeyondTheLastCell(cells);
            coverFromNoCell(cells);
            coverThatWrapsAround(cells);
        }
        coverOfEachRowOfCells();
        coverOfCardsThatAreMarked();
    }

    private static void coverOfAllCells(int cells) {
        CardBook book = bookOf(cells);
        due("cover of all " + cells, book.cover(0, cells), cardsOf(cells));
        due("count(3) after it", book.count(3), cardsOf(cells));
        due("count(2) after it", book.count(2), 0);
        due("the first card after it", book.card(0), 2);
        due("the last card after it", book.card(cardsOf(cells) - 1), 2);
    }

    private static void coverOfOneCell(int cells, int cell) {
        CardBook book = bookOf(cells);
        int card = cell / 32;
        due("cover(" + cell + ", 1) of " + cells, book.cover(cell, 1), 1);
        due("after cover(" + cell + ", 1) of " + cells, Checks.marks(book),
            cells + " cells " + cardsOf(cells) + " cards 0 dirty 1 saved " + card);
    }

    private static void refusedCover(int cells, int cell, int size) {
        refused(cells, "cover(" + cell + ", " + size + ")", INDEX, book -> book.cover(cell, size));
    }

    private static void coverOfTooFew(int cells) {
        for (int size : new int[] {0, -1, -32, MIN}) {
            refusedCover(cells, 0, size);
            refusedCover(cells, cells / 2, size);
            refusedCover(cells, cells - 1, size);
            refusedCover(cells, cells, size);
            refusedCover(cells, -1, size);
        }
    }

    private static void coverBeyondTheLastCell(int cells) {
        for (int cell : new int[] {0, cells / 2, cells - 1}) {
            refusedCover(cells, cell, cells - cell + 1);
            refusedCover(cells, cell, cells - cell + 32);
            refusedCover(cells, cell, LARGEST + 1);
        }
        refusedCover(cells, cells, 1);
        refusedCover(cells, 32 * cardsOf(cells), 1);
    }

    private static void coverFromNoCell(int cells) {
        refusedCover(cells, -1, 1);
        refusedCover(cells, -1, 2);
        refusedCover(cells, -1, cells + 1);
        refusedCover(cells, -33, 40);
        refusedCover(cells, MIN, 1);
        refusedCover(cells, MAX, 1);
    }

    /** cell + size, cell + size - 1 or cells - cell is larger than an int, or smaller. */
    private static void coverThatWrapsAround(int cells) {
        int[] ends = {MIN, MIN + 1, MAX - 1, MAX};
        for (int far : ends) {
            refusedCover(cells, 0, far);
            refusedCover(cells, cells - 1, far);
            refusedCover(cells, cells, far);
            refusedCover(cells, far, cells);
            refusedCover(cells, far, 2);
            for (int size : ends) {
                refusedCover(cells, far, size);
            }
        }
        // Sums that come out as a cell that there is.
        refusedCover(cells, MIN, MIN);
        refusedCover(cells, -MAX, MAX);
        refusedCover(cells, -MAX, MIN);
        refusedCover(cells, MAX, -MAX);
    }

    private static void coverOfEachRowOfCells() {
        int cells = 70;
        for (int cell = -3; cell <= cells + 3; cell++) {
            for (int size = -3; size <= cells + 6; size++) {
                coverAsCountedCellByCell(cells, cell, size);
            }
        }
    }

    private static void coverAsCountedCellByCell(int cells, int cell, int size) {
        char[] saved = "000".toCharArray();
        boolean allThere = size >= 1;
        for (int i = cell; i < cell + size; i++) {
            boolean there = 0 <= i && i < cells;
            allThere &= there;
            if (there) {
                saved[i / 32] = '2';
            }
        }
        String cards = allThere ? new String(saved) : "000";
        long many = cards.chars().filter(c -> c == '2').count();
        CardBook book = bookOf(cells);
        String what = "cover(" + cell + ", " + size + ")";
        due(what, Checks.outcome(() -> book.cover(cell, size)),
            allThere ? "" + many : "throws.IndexOutOfBoundsException");
        due("after " + what, Checks.show(book), "70 3 0 " + many + " " + cards);
    }

    private static void coverOfCardsThatAreMarked() {
        int[] after = {2, 3, 2, 3};
        for (int marks = 0; marks <= 3; marks++) {
            CardBook book = markedAtEnds(70, marks);
            due("cover of cards with marks " + marks, book.cover(0, 70), 3);
            due("the first card after it", book.card(0), after[marks]);
            due("the last card after it", book.card(2), after[marks]);
        }
    }

    // ---- Promise 5: "A card is not dirty any more; if it was, and that is wanted, it is saved: whether it was dirty."

    private static void clean() {
        for (int cells : SIZES) {
            cleanOf(cells, 0);
            cleanOf(cells, cardsOf(cells) - 1);
        }
        refusedCards("clean with saving", (book, card) -> book.clean(card, true));
        refusedCards("clean without saving", (book, card) -> book.clean(card, false));
    }

    /** A card that was not dirty is not saved by it, and one that was saved stays so. */
    private static void cleanOf(int cells, int card) {
        int[] afterSaving = {0, 2, 2, 2};
        int[] afterNotSaving = {0, 0, 2, 2};
        for (int marks = 0; marks <= 3; marks++) {
            boolean wasDirty = marks == 1 || marks == 3;
            changes(cells, card, marks, "clean with saving", b -> b.clean(card, true), wasDirty, afterSaving[marks]);
            changes(cells, card, marks, "clean without saving", b -> b.clean(card, false), wasDirty,
                afterNotSaving[marks]);
        }
    }

    /** The call answers this, the card is this after it, and no other card is touched. */
    private static void changes(int cells, int card, int marks, String name, Call call, boolean answer, int after) {
        String what = name + " of card " + card + " with marks " + marks + " of " + cells;
        CardBook book = markedAtEnds(cells, marks);
        due(what, call.on(book), answer);
        due("the card after " + what, book.card(card), after);
        due(what + " again", call.on(book), false);
        due("the card after " + what + " again", book.card(card), after);
        int other = card == 0 ? cardsOf(cells) - 1 : 0;
        if (other != card) {
            due("the other card after " + what, book.card(other), marks);
        }
    }

    // ---- Promise 6: "A card is not saved any more: whether it was."

    private static void unsave() {
        for (int cells : SIZES) {
            unsaveOf(cells, 0);
            unsaveOf(cells, cardsOf(cells) - 1);
        }
        refusedCards("unsave", CardBook::unsave);
    }

    private static void unsaveOf(int cells, int card) {
        int[] after = {0, 1, 0, 1};
        for (int marks = 0; marks <= 3; marks++) {
            boolean wasSaved = marks == 2 || marks == 3;
            changes(cells, card, marks, "unsave", b -> b.unsave(card), wasSaved, after[marks]);
        }
    }

    // ---- Promise 7: "0 neither, 1 dirty, 2 saved, 3 both."

    private static void card() {
        for (int cells : SIZES) {
            for (int marks = 0; marks <= 3; marks++) {
                cardOf(cells, marks);
            }
        }
        refusedCards("card", CardBook::card);
    }

    private static void cardOf(int cells, int marks) {
        CardBook book = markedAtEnds(cells, marks);
        String before = Checks.marks(book);
        due("the first card of " + cells, book.card(0), marks);
        due("the last card of " + cells, book.card(cardsOf(cells) - 1), marks);
        due("the marks after card of " + cells, Checks.marks(book), before);
        if (cardsOf(cells) > 2) {
            due("card(1) of " + cells, book.card(1), 0);
        }
    }

    // ---- Promises 8 and 9: "The first dirty card from one on; NONE if there is none." (and saved)
    //      "IllegalArgumentException: card is below 0."

    private static void nextDirty() {
        next("nextDirty", DIRTY, CardBook::nextDirty);
    }

    private static void nextSaved() {
        next("nextSaved", SAVED, CardBook::nextSaved);
    }

    interface Next {
        int from(CardBook book, int card);
    }

    private static void next(String name, int wanted, Next next) {
        due("NONE", CardBook.NONE, -1);
        for (int cells : SIZES) {
            nextWhereThereIsNone(cells, name, wanted, next);
            nextFromTheEnds(cells, name, wanted, next);
            nextBehindTheLastCard(cells, name, next);
            nextBelowTheFirstCard(cells, name, next);
        }
        nextFromEachCard(name, wanted, next);
    }

    /** No card is marked at all, or all cards are, but with the other mark. */
    private static void nextWhereThereIsNone(int cells, String name, int wanted, Next next) {
        int last = cardsOf(cells) - 1;
        for (int marks : new int[] {0, 3 - wanted}) {
            CardBook book = markedAll(cells, marks);
            due(name + "(0), none of " + cells, next.from(book, 0), -1);
            due(name + " from the last, none of " + cells, next.from(book, last), -1);
        }
    }

    private static void nextFromTheEnds(int cells, String name, int wanted, Next next) {
        int last = cardsOf(cells) - 1;
        for (int marks : new int[] {wanted, 3}) {
            CardBook book = markedAtEnds(cells, marks);
            String before = Checks.marks(book);
            due(name + "(0) of " + cells, next.from(book, 0), 0);
            due(name + "(1) of " + cells, next.from(book, 1), last >= 1 ? last : -1);
            due(name + " from the last of " + cells, next.from(book, last), last);
            due("the marks after " + name + " of " + cells, Checks.marks(book), before);
        }
    }

    private static void nextBehindTheLastCard(int cells, String name, Next next) {
        for (int marks = 0; marks <= 3; marks++) {
            CardBook book = markedAtEnds(cells, marks);
            String before = Checks.marks(book);
            for (int card : new int[] {cardsOf(cells), cardsOf(cells) + 1, 512, 513, 16384, MAX - 1, MAX}) {
                due(name + "(" + card + ") of " + cells, next.from(book, card), -1);
            }
            due("the marks after " + name + " of " + cells, Checks.marks(book), before);
        }
    }

    private static void nextBelowTheFirstCard(int cells, String name, Next next) {
        for (int card : new int[] {-1, -2, -512, -MAX, MIN}) {
            refused(cells, name + "(" + card + ")", ARGUMENT, book -> next.from(book, card));
        }
    }

    /** The only one is behind, here, or before: found, found, NONE. */
    private static void nextFromEachCard(String name, int wanted, Next next) {
        for (int only = 0; only < 32; only++) {
            CardBook book = new CardBook();
            mark(book, 32 * only, wanted);
            for (int from = 0; from <= 33; from++) {
                due(name + "(" + from + ") where only " + only + " is", next.from(book, from), from <= only ? only : -1);
            }
        }
    }

    // ---- Promise 10: "No card is dirty or saved any more: how many were one of these or both."

    private static void clear() {
        for (int cells : SIZES) {
            clearWhereNoneIsMarked(cells);
            clearWhereTheEndsAreMarked(cells);
            clearWhereAllAreMarked(cells);
        }
        clearOfEachKindAtOnce();
    }

    private static void clears(String what, CardBook book, int cells, int marked) {
        due("clear() of " + what, book.clear(), marked);
        due("after clear() of " + what, Checks.marks(book), unmarked(cells));
        due("the last card after clear() of " + what, book.card(cardsOf(cells) - 1), 0);
        due("clear() again of " + what, book.clear(), 0);
    }

    private static void clearWhereNoneIsMarked(int cells) {
        clears(cells + " unmarked", bookOf(cells), cells, 0);
    }

    private static void clearWhereTheEndsAreMarked(int cells) {
        for (int marks = 1; marks <= 3; marks++) {
            clears(cells + " with marks " + marks + " at the ends", markedAtEnds(cells, marks), cells,
                Math.min(2, cardsOf(cells)));
        }
    }

    private static void clearWhereAllAreMarked(int cells) {
        clears(cells + ", all dirty", markedAll(cells, DIRTY), cells, Math.min(400, cardsOf(cells)));
        clears(cells + ", all saved", markedAll(cells, SAVED), cells, cardsOf(cells));
        clears(cells + ", all both", markedAll(cells, DIRTY | SAVED), cells, cardsOf(cells));
    }

    private static void clearOfEachKindAtOnce() {
        CardBook book = bookOf(128);
        mark(book, 32, DIRTY);
        mark(book, 64, SAVED);
        mark(book, 96, DIRTY | SAVED);
        clears("neither, dirty, saved and both", book, 128, 3);
    }

    // ---- Promise 11: "0 cells, 1 cards, 2 dirty ones, 3 saved ones. IllegalArgumentException: none of these."

    private static void count() {
        for (int cells : SIZES) {
            for (int marks = 0; marks <= 3; marks++) {
                countOf(cells, marks);
            }
            countOfNoneOfThese(cells);
        }
    }

    private static void countOf(int cells, int marks) {
        int cards = cardsOf(cells);
        String what = " of " + cells + " with marks " + marks;
        CardBook book = markedAll(cells, marks);
        due("count(0)" + what, book.count(0), cells);
        due("count(1)" + what, book.count(1), cards);
        due("count(2)" + what, book.count(2), (marks & DIRTY) != 0 ? Math.min(400, cards) : 0);
        due("count(3)" + what, book.count(3), (marks & SAVED) != 0 ? cards : 0);
        due("the last card after the counts" + what, book.card(cards - 1), marks);
    }

    private static void countOfNoneOfThese(int cells) {
        for (int what : new int[] {-1, 4, 5, MIN, MAX}) {
            refused(cells, "count(" + what + ")", ARGUMENT, book -> book.count(what));
        }
    }
}
