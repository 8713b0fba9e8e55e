/** Cards of 32 cells each that remember which were written (dirty) and which are kept for another reader (saved). */
public final class CardBook {
    public static final int NONE = -1;

    private static final int FIRST_CELLS = 1024;
    private static final int MOST_CELLS = 16384;
    private static final int CELLS_PER_CARD = 32;
    private static final int MOST_CARDS = MOST_CELLS / CELLS_PER_CARD;

    // The two marks are bits, so that a card's entry is itself what card() answers.
    private static final int DIRTY = 1;
    private static final int SAVED = 2;

    // As long as the largest space needs, so that space() never makes another row;
    // the entries behind the last card are always 0.
    private final int[] marks;
    private int cells;

    public CardBook() {
        marks = new int[MOST_CARDS];
        cells = FIRST_CELLS;
    }

    public int space(int n) throws IllegalArgumentException {
        if (n < 1 || n > MOST_CELLS) {
            throw new IllegalArgumentException("the number of cells is not 1 .. 16384");
        }
        int before = cells;
        // While the old number still holds, so that no entry behind the new last card keeps a mark.
        clear();
        cells = n;
        return before;
    }

    public int write(int cell) throws IndexOutOfBoundsException {
        requireCell(cell);
        int written = cardOf(cell);
        marks[written] |= DIRTY;
        return written;
    }

    public int cover(int cell, int size) throws IndexOutOfBoundsException {
        requireCell(cell);
        // Not cell + size > cells: that sum can wrap around.
        if (size < 1 || size > cells - cell) {
            throw new IndexOutOfBoundsException("no such row of cells");
        }
        int first = cardOf(cell);
        int last = cardOf(cell + size - 1);
        for (int i = first; i <= last; i++) {
            marks[i] |= SAVED;
        }
        return last - first + 1;
    }

    public boolean clean(int card, boolean saves) throws IndexOutOfBoundsException {
        requireCard(card);
        boolean wasDirty = removeMark(card, DIRTY);
        if (wasDirty && saves) {
            marks[card] |= SAVED;
        }
        return wasDirty;
    }

    public boolean unsave(int card) throws IndexOutOfBoundsException {
        requireCard(card);
        return removeMark(card, SAVED);
    }

    public int card(int card) throws IndexOutOfBoundsException {
        requireCard(card);
        return marks[card];
    }

    public int nextDirty(int card) throws IllegalArgumentException {
        return firstWith(DIRTY, card);
    }

    public int nextSaved(int card) throws IllegalArgumentException {
        return firstWith(SAVED, card);
    }

    public int clear() {
        int marked = countWith(DIRTY | SAVED);
        int cards = cardCount();
        for (int i = 0; i < cards; i++) {
            marks[i] = 0;
        }
        return marked;
    }

    public int count(int what) throws IllegalArgumentException {
        switch (what) {
            case 0:
                return cells;
            case 1:
                return cardCount();
            case 2:
                return countWith(DIRTY);
            case 3:
                return countWith(SAVED);
            default:
                throw new IllegalArgumentException("what is counted is not 0 .. 3");
        }
    }

    private static int cardOf(int cell) {
        return cell / CELLS_PER_CARD;
    }

    private int cardCount() {
        return cardOf(cells - 1) + 1;
    }

    private void requireCell(int cell) {
        if (cell < 0 || cell >= cells) {
            throw new IndexOutOfBoundsException("no such cell");
        }
    }

    private void requireCard(int card) {
        if (card < 0 || card >= cardCount()) {
            throw new IndexOutOfBoundsException("no such card");
        }
    }

    private boolean removeMark(int card, int mark) {
        boolean had = (marks[card] & mark) != 0;
        marks[card] &= ~mark;
        return had;
    }

    private int firstWith(int mark, int from) {
        if (from < 0) {
            throw new IllegalArgumentException("the card is below 0");
        }
        int cards = cardCount();
        for (int i = from; i < cards; i++) {
            if ((marks[i] & mark) != 0) {
                return i;
            }
        }
        return NONE;
    }

    /** How many cards bear at least one of these marks. */
    private int countWith(int anyOf) {
        int found = 0;
        int cards = cardCount();
        for (int i = 0; i < cards; i++) {
            if ((marks[i] & anyOf) != 0) {
                found++;
            }
        }
        return found;
    }
}
