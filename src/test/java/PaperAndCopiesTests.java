/** Promises 27 to 36: paper, heaps, bound copies, what is printed in them. */
public final class PaperAndCopiesTests {
    private PaperAndCopiesTests() {
    }

    /** A house with a book of so many sheets of two leaves, with "ab" on the first page, all set and locked. */
    private static House house(int sheets, int edition) {
        House x = new House();
        Checks.castAll(x, "ab", 9);
        x.hand(0, 0, 0);
        x.book(2, sheets, 10, 1, edition);
        Checks.copy(x, 0, "ab");
        for (int page = 0; page < 4 * sheets; page++) {
            x.set(0, page, 0);
        }
        for (int forme = 0; forme < 2 * sheets && forme < 6; forme++) {
            x.lock(0, forme, forme);
        }
        return x;
    }

    /** Puts a forme on a press, and waits until it is DONE. */
    private static void printAll(House x, int forme) {
        x.print(0, 0, forme);
        for (int i = 0; i < 99 && x.forme(0, forme, 0) == Leadchapel.ON; i++) {
            x.pass(1);
        }
    }

    /** Promises 27 and 33. */
    private static void paperAndMarks() {
        House x = house(2, 3);
        Checks.due("stock 0 at first", 0, x.paper(0));
        printAll(x, 1);
        Checks.due("taken of stock 0", 3, x.paper(0));
        Checks.due("taken of stock 3", 0, x.paper(3));
        printAll(x, 0);
        Checks.due("the second forme takes no heap", 0, x.account(4, 3));
        x.paper(0);
        printAll(x, 2);
        Checks.due("taken of stock 0 by two heaps", 6, x.account(4, 0));
        printAll(x, 3);
        Checks.refuses(x, "paper of stock 4", Checks.INDEX, () -> x.paper(4));
        Checks.refuses(x, "paper of stock -1", Checks.INDEX, () -> x.paper(-1));
        Checks.refuses(x, "mark in a book that is not bound", Checks.STATE, () -> x.mark(0, 0, 0));
        x.bind(0);
        int[][] marks = {{0, 0, 1, 1}, {1, 1, 0, 0}, {0, 0, 1, 1}};
        for (int copy = 0; copy < 3; copy++) {
            for (int leaf = 0; leaf < 4; leaf++) {
                Checks.due("mark " + copy + " " + leaf, marks[copy][leaf], x.mark(0, copy, leaf));
            }
        }
        Checks.refuses(x, "mark of leaf 4", Checks.INDEX, () -> x.mark(0, 0, 4));
        Checks.refuses(x, "mark of leaf -1", Checks.INDEX, () -> x.mark(0, 0, -1));
        Checks.refuses(x, "mark of copy 3", Checks.INDEX, () -> x.mark(0, 3, 0));
        Checks.refuses(x, "mark of copy -1", Checks.INDEX, () -> x.mark(0, -1, 0));
        Checks.refuses(x, "mark of no book", Checks.INDEX, () -> x.mark(1, 0, 0));

        House y = house(1, 2);
        y.paper(2);
        y.paper(3);
        printAll(y, 0);
        printAll(y, 1);
        y.bind(0);
        Checks.due("mark of stock 3", 6, y.mark(0, 0, 1));
        Checks.due("mark of the twin mould", 7, y.mark(0, 1, 1));
    }

    /** Promises 28 and 29. */
    private static void layAndBind() {
        House x = house(2, 3);
        Checks.refuses(x, "bind of what is not printed", Checks.STATE, () -> x.bind(0));
        Checks.refuses(x, "lay by the edition", Checks.ARGUMENT, () -> x.lay(0, 0, 3));
        Checks.refuses(x, "lay by -1", Checks.ARGUMENT, () -> x.lay(0, 0, -1));
        Checks.refuses(x, "lay of sheet 2", Checks.INDEX, () -> x.lay(0, 2, 3));
        Checks.refuses(x, "lay of sheet -1", Checks.INDEX, () -> x.lay(0, -1, 0));
        Checks.refuses(x, "lay of no book", Checks.INDEX, () -> x.lay(1, 0, 0));
        x.lay(0, 1, 1);
        for (int forme = 0; forme < 4; forme++) {
            Checks.refuses(x, "bind ahead of forme " + forme, Checks.STATE, () -> x.bind(0));
            printAll(x, forme);
        }
        x.putAway(0, 2, 0);
        x.lay(0, 0, 1);
        x.lay(0, 0, 0);
        x.lay(0, 0, 2);
        Checks.refuses(x, "bind of no book", Checks.INDEX, () -> x.bind(1));
        Checks.refuses(x, "state ahead of bind", Checks.STATE, () -> x.state(0, 0, 0));
        Checks.due("bind", 3, x.bind(0));
        Checks.refuses(x, "bind again", Checks.STATE, () -> x.bind(0));
        Checks.refuses(x, "lay in a bound book", Checks.STATE, () -> x.lay(0, 0, 1));
        Checks.refuses(x, "lay by 3 in a bound book", Checks.ARGUMENT, () -> x.lay(0, 0, 3));
        int[][] marks = {{0, 0}, {0, 1}, {1, 1}};
        for (int copy = 0; copy < 3; copy++) {
            Checks.due("mark of the first sheet, " + copy, marks[copy][0], x.mark(0, copy, 1));
            Checks.due("mark of the second sheet, " + copy, marks[copy][1], x.mark(0, copy, 2));
        }
    }

    /** A bound book of one sheet and six copies, whose outer forme was corrected after two and four sheets. */
    private static House corrected(boolean outerFirst) {
        House x = house(1, 6);
        if (!outerFirst) {
            printAll(x, 1);
        }
        x.print(0, 0, 0);
        x.pass(3);
        x.correct(0, 0, 0);
        x.pass(2);
        x.correct(0, 0, 1);
        x.pass(2);
        if (outerFirst) {
            printAll(x, 1);
        }
        x.bind(0);
        return x;
    }

    /** Each sheet has its own heap, and its own forme that was printed first. */
    private static void statesOfTwoSheets() {
        House x = new House();
        x.cast(0, 9);
        x.hand(0, 0, 0);
        x.book(4, 2, 10, 1, 4);
        Checks.copy(x, 0, "a/a/a/a/a/a/a/a/a/a/a/a/a/a/a/a");
        for (int page = 0; page < 16; page++) {
            x.set(0, page, 0);
        }
        x.cast(0, 9);
        int[] pageOf = {0, 1, 8, 9};
        for (int forme : new int[] {3, 0, 1, 2}) {
            x.lock(0, forme, forme);
            x.print(0, 0, forme);
            x.pass(4);
            Checks.due("correct", 1, x.correct(0, pageOf[forme], 0));
            x.pass(1);
        }
        x.bind(0);
        for (int page = 0; page < 16; page++) {
            int due = "0110011010011001".charAt(page) - '0';
            Checks.due("state of page " + page + " in copy 0", due, x.state(0, 0, page));
            Checks.due("state of page " + page + " in copy 1", 0, x.state(0, 1, page));
            Checks.due("state of page " + page + " in copy 3", 1 - due, x.state(0, 3, page));
        }
    }

    /** Promises 32 and 35. */
    private static void statesAndAlike() {
        House x = corrected(true);
        House y = corrected(false);
        int[] states = {0, 0, 1, 1, 2, 2};
        for (int copy = 0; copy < 6; copy++) {
            Checks.due("state of the first forme, " + copy, states[copy], x.state(0, copy, 0));
            Checks.due("state of its other page, " + copy, states[copy], x.state(0, copy, 3));
            Checks.due("state of the inner forme, " + copy, 0, x.state(0, copy, 1));
            Checks.due("state of the turned heap, " + copy, states[5 - copy], y.state(0, copy, 0));
            Checks.due("alike " + copy, 2, x.alike(0, copy));
        }
        Checks.refuses(x, "state of page 4", Checks.INDEX, () -> x.state(0, 0, 4));
        Checks.refuses(x, "state of page -1", Checks.INDEX, () -> x.state(0, 0, -1));
        Checks.refuses(x, "state of copy 6", Checks.INDEX, () -> x.state(0, 6, 0));
        Checks.refuses(x, "state of no book", Checks.INDEX, () -> x.state(1, 0, 0));
        Checks.refuses(x, "alike of copy 6", Checks.INDEX, () -> x.alike(0, 6));
        Checks.refuses(x, "alike of copy -1", Checks.INDEX, () -> x.alike(0, -1));
        Checks.refuses(x, "alike of no book", Checks.INDEX, () -> x.alike(1, 0));
        x.exchange(0, 0, 5, 0);
        Checks.due("alike with an exchanged leaf", 1, x.alike(0, 0));
        x.exchange(0, 1, 4, 0);
        Checks.due("alike with two exchanged leaves", 2, x.alike(0, 0));
        x.cancel(0, 3, 1);
        Checks.due("alike with a cancelled leaf", 1, x.alike(0, 3));
        Checks.due("alike with an exchanged and a cancelled leaf", 2, x.alike(0, 4));
        Checks.due("alike without it", 1, x.alike(0, 2));
    }

    /** Promises 30, 31 and 36. */
    private static void exchangeCancelMadeUp() {
        House x = corrected(true);
        for (int copy = 0; copy < 6; copy++) {
            Checks.due("made up of one sheet", 0, x.madeUp(0, copy));
        }
        x.exchange(0, 2, 2, 1);
        Checks.due("exchanged with itself", 0, x.madeUp(0, 2));
        x.exchange(0, 0, 5, 0);
        Checks.due("the leaf of 5", 2, x.state(0, 0, 0));
        Checks.due("its other page", 0, x.state(0, 0, 1));
        Checks.due("the leaf of 0", 0, x.state(0, 5, 0));
        Checks.due("the leaf that stays", 0, x.state(0, 0, 3));
        Checks.due("made up", 1, x.madeUp(0, 0));
        Checks.due("made up, too", 1, x.madeUp(0, 5));
        Checks.due("cancel from 4 on", 2, x.cancel(0, 4, 0));
        Checks.due("cancel from 3 on", 1, x.cancel(0, 3, 0));
        Checks.due("cancel again", 0, x.cancel(0, 5, 0));
        Checks.due("state of a cancelled leaf", -1, x.state(0, 5, 0));
        Checks.due("state of its other page", -1, x.state(0, 5, 1));
        Checks.due("mark of a cancelled leaf", -1, x.mark(0, 5, 0));
        Checks.due("the copy ahead", 1, x.state(0, 2, 0));
        Checks.due("the other leaf", 2, x.state(0, 5, 3));
        Checks.due("made up, the cancelled one aside", 0, x.madeUp(0, 5));
        x.exchange(0, 2, 3, 0);
        Checks.due("a cancelled leaf goes to another copy", -1, x.state(0, 2, 0));
        Checks.due("and the other one comes", 1, x.state(0, 3, 0));
        Checks.due("cancel of what came", 1, x.cancel(0, 3, 0));
        Checks.due("cancel in all", 2, x.cancel(0, 0, 0));
        Checks.due("cancel of the last leaf", 6, x.cancel(0, 0, 1));
        Checks.refuses(x, "exchange with copy 6", Checks.INDEX, () -> x.exchange(0, 0, 6, 0));
        Checks.refuses(x, "exchange of copy -1", Checks.INDEX, () -> x.exchange(0, -1, 0, 0));
        Checks.refuses(x, "exchange of leaf 2", Checks.INDEX, () -> x.exchange(0, 0, 1, 2));
        Checks.refuses(x, "exchange of leaf -1", Checks.INDEX, () -> x.exchange(0, 0, 1, -1));
        Checks.refuses(x, "exchange of no book", Checks.INDEX, () -> x.exchange(1, 0, 1, 0));
        Checks.refuses(x, "cancel of leaf 2", Checks.INDEX, () -> x.cancel(0, 0, 2));
        Checks.refuses(x, "cancel of copy 6", Checks.INDEX, () -> x.cancel(0, 6, 0));
        Checks.refuses(x, "cancel of no book", Checks.INDEX, () -> x.cancel(-1, 0, 0));
        Checks.refuses(x, "made up of copy 6", Checks.INDEX, () -> x.madeUp(0, 6));
        Checks.refuses(x, "made up of no book", Checks.INDEX, () -> x.madeUp(1, 0));
    }

    /** What is refused as long as a book is not bound; what is not there is told first. */
    private static void notBound() {
        House x = house(1, 2);
        Checks.refuses(x, "exchange", Checks.STATE, () -> x.exchange(0, 0, 1, 0));
        Checks.refuses(x, "exchange of leaf 2", Checks.INDEX, () -> x.exchange(0, 0, 1, 2));
        Checks.refuses(x, "cancel", Checks.STATE, () -> x.cancel(0, 1, 1));
        Checks.refuses(x, "cancel in copy 2", Checks.INDEX, () -> x.cancel(0, 2, 1));
        Checks.refuses(x, "state of copy 2", Checks.INDEX, () -> x.state(0, 2, 0));
        Checks.refuses(x, "mark of leaf 2", Checks.INDEX, () -> x.mark(0, 0, 2));
        Checks.refuses(x, "character", Checks.STATE, () -> x.character(0, 0, 0, 0, 0));
        Checks.refuses(x, "character of line -1", Checks.INDEX, () -> x.character(0, 0, 0, -1, 0));
        Checks.refuses(x, "character of place -1", Checks.INDEX, () -> x.character(0, 0, 0, 0, -1));
        Checks.refuses(x, "alike", Checks.STATE, () -> x.alike(0, 0));
        Checks.refuses(x, "alike of copy 2", Checks.INDEX, () -> x.alike(0, 2));
        Checks.refuses(x, "made up", Checks.STATE, () -> x.madeUp(0, 0));
        Checks.refuses(x, "made up of copy 2", Checks.INDEX, () -> x.madeUp(0, 2));
    }

    /** Promise 34: blanks, dots, turned and joined letters. */
    private static void characters() {
        House x = new House();
        x.hand(0, 0, 0);
        Checks.castAll(x, "abcdeghijkl", 9);
        x.cast(Checks.sort('u'), 2);
        x.cast(26, 1);
        x.cast(Checks.sort('f'), 1);
        x.book(2, 1, 10, 3, 2);
        Checks.copy(x, 0, "abc d e fighi nun fi flz/ab c");
        for (int page = 0; page < 4; page++) {
            x.set(0, page, 0);
        }
        x.lock(0, 0, 0);
        x.lock(0, 1, 1);
        printAll(x, 0);
        x.putAway(0, 0, 0);
        printAll(x, 1);
        x.bind(0);
        Checks.dueText("a line that is filled out", "abc   d  e", Checks.printed(x, 0, 1, 0, 0));
        Checks.dueText("joined, turned and empty", "fighi  nu.", Checks.printed(x, 0, 1, 0, 1));
        Checks.dueText("a line with dots", "fi .l.", Checks.printed(x, 0, 1, 0, 2));
        Checks.dueText("a line that is not filled out", "ab c", Checks.printed(x, 0, 0, 1, 0));
        Checks.due("behind a line", -1, x.character(0, 0, 1, 0, 4));
        Checks.due("far behind a line", -1, x.character(0, 0, 1, 0, Integer.MAX_VALUE));
        Checks.due("a line that is not there", -1, x.character(0, 0, 1, 1, 0));
        Checks.due("a line far below", -1, x.character(0, 0, 1, Integer.MAX_VALUE, 0));
        Checks.due("a line of an empty page", -1, x.character(0, 0, 2, 0, 0));
        x.cancel(0, 1, 0);
        Checks.dueText("a new leaf is as it was wanted", "fighi  nun", Checks.printed(x, 0, 1, 0, 1));
        Checks.dueText("a new leaf has no dots", "fi flz", Checks.printed(x, 0, 1, 0, 2));
        Checks.dueText("its other page", "ab c", Checks.printed(x, 0, 1, 1, 0));
        Checks.dueText("another copy is as it was", "fi .l.", Checks.printed(x, 0, 0, 0, 2));
        Checks.refuses(x, "character of page 4", Checks.INDEX, () -> x.character(0, 0, 4, 0, 0));
        Checks.refuses(x, "character of copy 2", Checks.INDEX, () -> x.character(0, 2, 0, 0, 0));
        Checks.refuses(x, "character of no book", Checks.INDEX, () -> x.character(1, 0, 0, 0, 0));
        Checks.refuses(x, "character of line -1", Checks.INDEX, () -> x.character(0, 0, 0, -1, 0));
        Checks.refuses(x, "character of place -1", Checks.INDEX, () -> x.character(0, 0, 0, 0, -1));
    }

    /** Pieces that were put away wrongly print their own letters, turned or not; so do states. */
    private static void wrongPieces() {
        House x = new House();
        x.hand(0, 1, 0);
        x.cast(26, 2);
        x.cast(Checks.sort('t'), 2);
        x.book(2, 1, 10, 1, 2);
        x.book(2, 1, 10, 1, 4);
        Checks.copy(x, 0, "fit fit");
        x.set(0, 0, 0);
        for (int page = 1; page < 4; page++) {
            x.set(0, page, 0);
        }
        x.lock(0, 0, 0);
        printAll(x, 0);
        Checks.due("four pieces to wrong boxes", 4, x.putAway(0, 0, 0));
        Checks.copy(x, 1, "nfl uf");
        for (int page = 0; page < 4; page++) {
            x.set(1, page, 0);
        }
        Checks.due("a t, turned for an n", 1, x.place(1, 0, 0, 2));
        Checks.due("a fi for a fl", 27, x.place(1, 0, 1, 1));
        x.lock(1, 0, 0);
        x.lock(1, 1, 1);
        x.print(0, 1, 0);
        x.pass(2);
        x.cast(27, 1);
        x.cast(Checks.sort('n'), 1);
        Checks.due("a correction", 1, x.correct(1, 0, 1));
        x.pass(1);
        Checks.due("another one", 2, x.correct(1, 0, 0));
        x.pass(2);
        x.print(0, 1, 1);
        x.pass(9);
        x.bind(1);
        Checks.dueText("state 0", "tfi t.", Checks.printed(x, 1, 0, 0, 0));
        Checks.dueText("state 1", "tfl t.", Checks.printed(x, 1, 1, 0, 0));
        Checks.dueText("state 2", "nfl t.", Checks.printed(x, 1, 2, 0, 0));
        x.exchange(1, 0, 3, 0);
        Checks.dueText("an exchanged leaf", "nfl t.", Checks.printed(x, 1, 0, 0, 0));
        Checks.dueText("the other one", "tfi t.", Checks.printed(x, 1, 3, 0, 0));
    }

    public static void main(String[] args) {
        paperAndMarks();
        layAndBind();
        statesOfTwoSheets();
        statesAndAlike();
        exchangeCancelMadeUp();
        notBound();
        characters();
        wrongPieces();
        Checks.end();
    }
}
