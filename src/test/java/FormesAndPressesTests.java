/** Promises 19 to 26 and 44: formes, presses, hours, corrections, type that is put away, accounts. */
public final class FormesAndPressesTests {
    private FormesAndPressesTests() {
    }

    /** A house with a book of four pages, "ab" on the first one, that are all set. */
    private static House house(int edition) {
        House x = new House();
        Checks.castAll(x, "ab", 4);
        x.hand(0, 0, 0);
        x.book(2, 1, 10, 1, edition);
        Checks.copy(x, 0, "ab");
        setAll(x, 0, 4);
        return x;
    }

    private static void setAll(House x, int book, int pages) {
        for (int page = 0; page < pages; page++) {
            x.set(book, page, 0);
        }
    }

    private static void dueForme(House x, int forme, int... told) {
        for (int what = 0; what < told.length; what++) {
            Checks.due("forme " + forme + ", " + what, told[what], x.forme(0, forme, what));
        }
    }

    /** Promises 16, 19 and 24. */
    private static void lock() {
        House x = new House();
        x.hand(0, 0, 0);
        x.book(4, 2, 10, 1, 3);
        x.book(2, 1, 10, 1, 3);
        Checks.copy(x, 0, "a");
        Checks.copy(x, 1, "a");
        setAll(x, 1, 4);
        int[] formes = {0, 1, 1, 0, 0, 1, 1, 0, 2, 3, 3, 2, 2, 3, 3, 2};
        for (int page = 0; page < 16; page++) {
            Checks.due("forme of page " + page, formes[page], x.page(0, page, 0));
            Checks.due("title of page " + page, -1, x.page(0, page, 8));
        }
        for (int page = 0; page < 7; page++) {
            x.set(0, page, 0);
        }
        dueForme(x, 0, Leadchapel.OPEN, -1, 0, 1, -1);
        Checks.refuses(x, "lock with a page that is not set", Checks.STATE, () -> x.lock(0, 0, 0));
        Checks.refuses(x, "lock in skeleton 6", Checks.ARGUMENT, () -> x.lock(0, 0, 6));
        Checks.refuses(x, "lock in skeleton -1", Checks.ARGUMENT, () -> x.lock(0, 1, -1));
        Checks.refuses(x, "lock of forme 4", Checks.INDEX, () -> x.lock(0, 4, 6));
        Checks.refuses(x, "lock of forme -1", Checks.INDEX, () -> x.lock(0, -1, 0));
        Checks.refuses(x, "lock of no book", Checks.INDEX, () -> x.lock(2, 0, 0));
        x.lock(0, 1, 5);
        dueForme(x, 1, Leadchapel.LOCKED, 5, 0, 1, -1);
        int[] titles = {-1, 40, 41, -1, -1, 42, 43, -1};
        for (int page = 0; page < 8; page++) {
            Checks.due("title of page " + page, titles[page], x.page(0, page, 8));
        }
        Checks.refuses(x, "lock again", Checks.STATE, () -> x.lock(0, 1, 4));
        Checks.refuses(x, "lock in a skeleton of another book", Checks.STATE, () -> x.lock(1, 0, 5));
        x.set(0, 7, 0);
        Checks.refuses(x, "lock in a skeleton of the same book", Checks.STATE, () -> x.lock(0, 0, 5));
        x.lock(0, 0, 0);
        Checks.due("title of the last page of a forme", 3, x.page(0, 7, 8));
        Checks.refuses(x, "forme, what 5", Checks.ARGUMENT, () -> x.forme(0, 0, 5));
        Checks.refuses(x, "forme, what -1", Checks.ARGUMENT, () -> x.forme(0, 0, -1));
        Checks.refuses(x, "forme 4, what 5", Checks.INDEX, () -> x.forme(0, 4, 5));
        Checks.refuses(x, "forme of no book", Checks.INDEX, () -> x.forme(2, 0, 0));
    }

    /** Promises 20 to 23. */
    private static void printAndPass() {
        House x = house(5);
        Checks.refuses(x, "print of an OPEN forme", Checks.STATE, () -> x.print(0, 0, 0));
        x.lock(0, 0, 0);
        x.lock(0, 1, 1);
        Checks.refuses(x, "print on press 3", Checks.INDEX, () -> x.print(3, 0, 0));
        Checks.refuses(x, "print on press -1", Checks.INDEX, () -> x.print(-1, 0, 0));
        Checks.refuses(x, "print of forme 2", Checks.INDEX, () -> x.print(0, 0, 2));
        Checks.refuses(x, "print of no book", Checks.INDEX, () -> x.print(0, 1, 0));
        Checks.due("nothing to do", 0, x.pass(1));
        x.print(2, 0, 0);
        dueForme(x, 0, Leadchapel.ON, 0, 0, 1, -1);
        Checks.refuses(x, "print of a forme that is ON", Checks.STATE, () -> x.print(1, 0, 0));
        Checks.refuses(x, "print of the other one of the sheet", Checks.STATE, () -> x.print(1, 0, 1));
        Checks.due("making ready", 0, x.pass(1));
        dueForme(x, 0, Leadchapel.ON, 0, 0, 1, -1);
        Checks.due("men", 1, x.men(2, 2));
        Checks.due("two sheets", 0, x.pass(1));
        dueForme(x, 0, Leadchapel.ON, 0, 2, 1, -1);
        Checks.due("men", 2, x.men(2, 0));
        Checks.due("no men", 0, x.pass(2));
        dueForme(x, 0, Leadchapel.ON, 0, 2, 1, -1);
        x.men(2, 2);
        Checks.due("the last one is one", 1, x.pass(2));
        dueForme(x, 0, Leadchapel.DONE, 0, 5, 1, 6);
        Checks.due("hour", 7, x.hour());
        Checks.due("sheets", 5, x.account(2, 2));
        Checks.due("hours", 4, x.account(3, 2));
        Checks.due("sheets of another press", 0, x.account(2, 0));
        Checks.due("DONE just once", 0, x.pass(1));
        Checks.refuses(x, "print of a DONE forme", Checks.STATE, () -> x.print(2, 0, 0));
        x.print(2, 0, 1);
        x.book(2, 1, 10, 1, 2);
        Checks.copy(x, 1, "ab");
        setAll(x, 1, 4);
        x.lock(1, 0, 3);
        Checks.refuses(x, "print on a press with a forme", Checks.STATE, () -> x.print(2, 1, 0));
        x.print(0, 1, 0);
        Checks.due("two formes DONE", 2, x.pass(5));
        Checks.refuses(x, "pass of no hours", Checks.ARGUMENT, () -> x.pass(0));
        Checks.refuses(x, "pass of less", Checks.ARGUMENT, () -> x.pass(-1));
        Checks.refuses(x, "pass of 71 hours", Checks.ARGUMENT, () -> x.pass(71));
        Checks.refuses(x, "men of press 3", Checks.INDEX, () -> x.men(3, 3));
        Checks.refuses(x, "men of press -1", Checks.INDEX, () -> x.men(-1, 0));
        Checks.refuses(x, "3 men", Checks.ARGUMENT, () -> x.men(0, 3));
        Checks.refuses(x, "-1 men", Checks.ARGUMENT, () -> x.men(0, -1));
    }

    private static void holidays() {
        House x = house(3);
        x.lock(0, 0, 0);
        x.pass(58);
        x.print(0, 0, 0);
        Checks.due("the last hours ahead of a holiday", 0, x.pass(2));
        dueForme(x, 0, Leadchapel.ON, 0, 1, 1, -1);
        Checks.due("a holiday", 0, x.pass(10));
        dueForme(x, 0, Leadchapel.ON, 0, 1, 1, -1);
        Checks.due("hours worked", 2, x.account(3, 0));
        Checks.due("after the holiday", 1, x.pass(2));
        dueForme(x, 0, Leadchapel.DONE, 0, 3, 1, 71);
        x.lock(0, 1, 1);
        x.pass(64);
        x.print(0, 0, 1);
        Checks.due("a second holiday", 0, x.pass(4));
        dueForme(x, 1, Leadchapel.ON, 1, 0, 1, -1);
        Checks.due("a whole week", 1, x.pass(70));
        dueForme(x, 1, Leadchapel.DONE, 1, 3, 1, 143);
    }

    private static void lastHour() {
        House x = new House();
        for (int i = 0; i < 71; i++) {
            x.pass(70);
        }
        Checks.due("hour 4970", 4970, x.hour());
        Checks.refuses(x, "hour 5001", Checks.STATE, () -> x.pass(31));
        x.pass(30);
        Checks.due("hour 5000", 5000, x.hour());
        Checks.refuses(x, "an hour beyond the last one", Checks.STATE, () -> x.pass(1));
        Checks.refuses(x, "no hours at the last one", Checks.ARGUMENT, () -> x.pass(0));
    }

    /** Presses work by rising numbers, each with its own men. */
    private static void threePresses() {
        House x = new House();
        x.hand(0, 0, 0);
        for (int book = 0; book < 3; book++) {
            x.book(2, 1, 10, 1, 2 + book);
            Checks.copy(x, book, "a");
            setAll(x, book, 4);
            x.lock(book, 0, book);
            x.print(book, book, 0);
            x.men(book, 2);
        }
        Checks.due("the first one", 1, x.pass(2));
        Checks.due("both others", 2, x.pass(1));
        for (int press = 0; press < 3; press++) {
            Checks.due("sheets of press " + press, 2 + press, x.account(2, press));
            Checks.due("hours of press " + press, press == 0 ? 2 : 3, x.account(3, press));
        }
    }

    /** Promise 25. */
    private static void correct() {
        House x = house(6);
        Checks.refuses(x, "correct in an OPEN forme", Checks.STATE, () -> x.correct(0, 0, 0));
        x.lock(0, 0, 0);
        x.lock(0, 1, 1);
        Checks.refuses(x, "correct of place 2", Checks.INDEX, () -> x.correct(0, 0, 2));
        Checks.refuses(x, "correct of place -1", Checks.INDEX, () -> x.correct(0, 0, -1));
        Checks.refuses(x, "correct of an empty page", Checks.INDEX, () -> x.correct(0, 3, 0));
        Checks.refuses(x, "correct of page 4", Checks.INDEX, () -> x.correct(0, 4, 0));
        Checks.refuses(x, "correct of no book", Checks.INDEX, () -> x.correct(1, 0, 0));
        Checks.due("piece ahead of it", 3, x.place(0, 0, 0, 0));
        Checks.due("correct of a LOCKED forme", 0, x.correct(0, 0, 0));
        Checks.due("piece then", 2, x.place(0, 0, 0, 0));
        Checks.due("the other one is on top", 3, x.box(0, 0));
        Checks.due("under it", 1, x.box(0, 1));
        Checks.due("where it is", 100, x.piece(2, 2));
        Checks.due("where the other one is", 0, x.piece(3, 2));
        x.print(0, 0, 0);
        x.pass(1);
        Checks.due("correct ahead of the first sheet", 0, x.correct(0, 0, 0));
        x.pass(2);
        dueForme(x, 0, Leadchapel.ON, 0, 2, 1, -1);
        Checks.due("correct with two sheets printed", 1, x.correct(0, 0, 0));
        Checks.due("correct of the same state", 1, x.correct(0, 0, 1));
        dueForme(x, 0, Leadchapel.ON, 0, 2, 2, -1);
        x.pass(1);
        Checks.due("correct with a sheet more", 2, x.correct(0, 0, 1));
        dueForme(x, 0, Leadchapel.ON, 0, 3, 3, -1);
        x.pass(3);
        Checks.refuses(x, "correct of a DONE forme", Checks.STATE, () -> x.correct(0, 0, 0));
        Checks.due("pieces taken by a hand are not those of corrections", 2, x.account(0, 0));
        x.putAway(0, 0, 0);
        Checks.refuses(x, "correct of a GONE forme", Checks.STATE, () -> x.correct(0, 0, 0));
    }

    private static void correctInAnotherBook() {
        House x = house(2);
        x.book(2, 1, 10, 1, 2);
        Checks.copy(x, 1, "a/b");
        setAll(x, 1, 4);
        x.lock(1, 1, 2);
        Checks.due("where a piece is", 201, x.piece(x.place(1, 1, 0, 0), 2));
        Checks.due("correct", 0, x.correct(1, 1, 0));
        Checks.due("where the other one is", 201, x.piece(x.place(1, 1, 0, 0), 2));
        Checks.refuses(x, "correct of a page whose forme is OPEN", Checks.STATE, () -> x.correct(1, 0, 0));
    }

    /** A correction takes from the box of the wanted sort alone, and turns nothing. */
    private static void correctTurned() {
        House x = new House();
        x.hand(0, 0, 0);
        x.cast(Checks.sort('u'), 3);
        x.book(2, 1, 10, 1, 2);
        Checks.copy(x, 0, "nt");
        setAll(x, 0, 4);
        x.lock(0, 0, 0);
        Checks.due("turned", 1, x.place(0, 0, 0, 2));
        Checks.refuses(x, "correct from an empty box", Checks.STATE, () -> x.correct(0, 0, 0));
        x.cast(Checks.sort('n'), 1);
        Checks.due("correct of a turned one", 0, x.correct(0, 0, 0));
        Checks.due("turned no more", 0, x.place(0, 0, 0, 2));
        Checks.due("piece", 3, x.place(0, 0, 0, 0));
        Checks.due("the other one in the box of its sort", 2, x.box(Checks.sort('u'), 0));
        x.cast(Checks.sort('t'), 1);
        Checks.due("correct of an empty place", 0, x.correct(0, 0, 1));
        Checks.due("piece in it", 4, x.place(0, 0, 1, 0));
        Checks.due("the box is empty", -1, x.box(Checks.sort('t'), 0));
    }

    /** Promises 10 and 26. */
    private static void putAway() {
        House x = new House();
        Checks.castAll(x, "ab", 3);
        x.cast(27, 1);
        x.hand(0, 0, 0);
        x.hand(0, 3, 0);
        x.book(2, 1, 10, 1, 2);
        Checks.copy(x, 0, "ab/b/a");
        Checks.copy(x, 0, "fl b");
        setAll(x, 0, 4);
        x.lock(0, 0, 4);
        x.lock(0, 1, 1);
        Checks.refuses(x, "put a LOCKED forme away", Checks.STATE, () -> x.putAway(0, 0, 0));
        x.print(0, 0, 0);
        Checks.refuses(x, "put a forme away that is ON", Checks.STATE, () -> x.putAway(0, 0, 0));
        x.pass(3);
        Checks.refuses(x, "put away by no hand", Checks.INDEX, () -> x.putAway(0, 0, 2));
        Checks.refuses(x, "put forme 2 away", Checks.INDEX, () -> x.putAway(0, 2, 0));
        Checks.refuses(x, "put a forme of no book away", Checks.INDEX, () -> x.putAway(1, 0, 0));
        Checks.due("put away", 4, x.putAway(0, 0, 1));
        dueForme(x, 0, Leadchapel.GONE, 4, 2, 1, 2);
        Checks.due("box a", 6, x.box(0, 0));
        Checks.due("box a, under it", 2, x.box(0, 1));
        Checks.due("box b", 3, x.box(1, 0));
        Checks.due("box b, under it", 5, x.box(1, 1));
        Checks.due("the third one goes to the box behind 27, which is a", 0, x.piece(6, 2));
        Checks.due("fl is still of its sort", 27, x.piece(6, 0));
        Checks.due("put away, by the account", 4, x.account(1, 1));
        Checks.due("put away by the other one", 0, x.account(1, 0));
        Checks.due("no piece is there", -1, x.place(0, 0, 0, 0));
        Checks.due("the wanted sort is kept", 0, x.place(0, 0, 0, 1));
        Checks.due("the title is kept", 33, x.page(0, 3, 8));
        Checks.refuses(x, "put away again", Checks.STATE, () -> x.putAway(0, 0, 1));
        x.print(0, 0, 1);
        x.pass(3);
        Checks.due("put the other one away", 2, x.putAway(0, 1, 1));
        Checks.due("the sixth one goes to the next box", 1, x.piece(1, 2));
        x.book(2, 1, 10, 1, 2);
        Checks.copy(x, 1, "b");
        setAll(x, 1, 4);
        x.lock(1, 0, 4);
        Checks.due("a free skeleton", 32, x.page(1, 0, 8));
    }

    private static void putTurnedAway() {
        House x = new House();
        x.cast(Checks.sort('b'), 1);
        x.hand(0, 0, 0);
        x.book(2, 1, 10, 1, 2);
        Checks.copy(x, 0, "q");
        setAll(x, 0, 4);
        x.lock(0, 0, 0);
        x.print(0, 0, 0);
        x.pass(3);
        Checks.due("turned", 1, x.place(0, 0, 0, 2));
        Checks.due("put away", 1, x.putAway(0, 0, 0));
        Checks.due("no piece that is turned", 0, x.place(0, 0, 0, 2));
        Checks.due("in the box of its sort", 0, x.box(Checks.sort('b'), 0));
    }

    /** Promise 44. */
    private static void account() {
        House x = house(3);
        x.hand(0, 0, 0);
        Checks.due("taken", 2, x.account(0, 0));
        Checks.due("taken by another one", 0, x.account(0, 1));
        x.lock(0, 0, 0);
        x.paper(3);
        x.print(1, 0, 0);
        Checks.due("paper", 3, x.account(4, 3));
        Checks.due("paper of another stock", 0, x.account(4, 0));
        x.pass(9);
        Checks.due("sheets", 3, x.account(2, 1));
        Checks.due("hours", 4, x.account(3, 1));
        Checks.refuses(x, "account 5", Checks.ARGUMENT, () -> x.account(5, 9));
        Checks.refuses(x, "account -1", Checks.ARGUMENT, () -> x.account(-1, 0));
        int[] ends = {2, 2, 3, 3, 4};
        for (int what = 0; what < 5; what++) {
            int its = what;
            Checks.refuses(x, "account of -1", Checks.INDEX, () -> x.account(its, -1));
            Checks.refuses(x, "account beyond", Checks.INDEX, () -> x.account(its, ends[its]));
        }
    }

    public static void main(String[] args) {
        lock();
        printAndPass();
        holidays();
        lastHour();
        threePresses();
        correct();
        correctInAnotherBook();
        correctTurned();
        putAway();
        putTurnedAway();
        account();
        Checks.end();
    }
}
