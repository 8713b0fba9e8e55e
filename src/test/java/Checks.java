/** Counts and prints the answers that are not as due; the tests end through it. */
final class Checks {
    interface Call {
        Object run();
    }

    // A next card that is wrong must end a test, not keep it going for ever.
    private static final int MOST_CARDS = 512;

    private int wrong = 0;

    void equal(String what, Object got, Object due) {
        if (!due.equals(got)) {
            wrong++;
            System.out.println(what + " answered " + got + ", due is " + due);
        }
    }

    /** The call throws exactly this class, and what it shows of the book is the same before and after. */
    void refused(String what, CardBook book, Class<? extends Exception> due, Call call) {
        String before = show(book);
        equal(what, outcome(call), "throws." + due.getSimpleName());
        equal("the state after " + what, show(book), before);
    }

    static String outcome(Call call) {
        try {
            return String.valueOf(call.run());
        } catch (RuntimeException e) {
            return "throws." + e.getClass().getSimpleName();
        }
    }

    /** Cells, cards, dirty, saved, and every card's state; it spends 4 calls of the book's 512, and one for each card. */
    static String show(CardBook book) {
        StringBuilder text = new StringBuilder();
        int cards = book.count(1);
        text.append(book.count(0)).append(' ').append(cards).append(' ');
        text.append(book.count(2)).append(' ').append(book.count(3)).append(' ');
        for (int c = 0; c < cards; c++) {
            text.append(book.card(c));
        }
        return text.toString();
    }

    /** Cells, cards, and which cards are dirty and which saved; it spends few calls where few are marked. */
    static String marks(CardBook book) {
        StringBuilder text = new StringBuilder();
        text.append(book.count(0)).append(" cells ").append(book.count(1)).append(" cards ");
        text.append(book.count(2)).append(" dirty");
        for (int c = book.nextDirty(0), n = 0; c != CardBook.NONE && n < MOST_CARDS; c = book.nextDirty(c + 1), n++) {
            text.append(' ').append(c);
        }
        text.append(' ').append(book.count(3)).append(" saved");
        for (int c = book.nextSaved(0), n = 0; c != CardBook.NONE && n < MOST_CARDS; c = book.nextSaved(c + 1), n++) {
            text.append(' ').append(c);
        }
        return text.toString();
    }

    void end() {
        System.out.println(wrong == 0 ? "all answers are as due" : wrong + " answers are not as due");
        if (wrong != 0) {
            System.exit(1);
        }
    }
}
