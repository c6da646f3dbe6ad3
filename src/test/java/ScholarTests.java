/** Promises 37 to 42: what formes share, orders that fit, the fewest hands and presses. */
public final class ScholarTests {
    private ScholarTests() {
    }

    /** A house with a book of two sheets, cast off so that each page has one word of four letters. */
    private static House house(String copy) {
        House x = new House();
        x.cast(0, 8);
        x.cast(1, 8);
        x.hand(0, 0, 0);
        x.men(0, 2);
        x.book(2, 2, 10, 1, 2);
        Checks.copy(x, 0, copy);
        Checks.due("a word for each page", 7, x.castOff(0, 50));
        return x;
    }

    private static void setAndLock(House x, int forme, int skeleton) {
        for (int page = 0; page < 8; page++) {
            if (x.page(0, page, 0) == forme) {
                x.set(0, page, 0);
            }
        }
        x.lock(0, forme, skeleton);
    }

    private static void bringThrough(House x, int forme, int skeleton) {
        setAndLock(x, forme, skeleton);
        x.print(0, 0, forme);
        x.pass(2);
        x.putAway(0, forme, 0);
    }

    private static void dueOrders(House x, int want) {
        Checks.due("orders", want, x.orders(0));
        Checks.due("orders anew", want, x.ordersAnew(0));
    }

    private static void dueAhead(House x, int one, int other, int want) {
        Checks.due("ahead " + one + " " + other, want, x.ahead(0, one, other));
        Checks.due("ahead " + other + " " + one, -want, x.ahead(0, other, one));
    }

    /** Promises 37 to 40. */
    private static void sharedAndOrders() {
        House x = house("aaaa/aaaa/aaaa/aaaa/aaaa/aaaa/aaaa/aaaa");
        dueOrders(x, 24);
        dueAhead(x, 0, 1, 0);
        Checks.due("nothing shared", 0, x.shared(0, 0, 1));
        x.wear(0);
        bringThrough(x, 2, 3);
        dueOrders(x, 24);
        x.wear(0);
        x.wear(1);
        bringThrough(x, 0, 3);
        dueAhead(x, 2, 0, 1);
        dueOrders(x, 12);
        dueAhead(x, 2, 1, 0);
        x.wear(0);
        bringThrough(x, 3, 4);
        dueOrders(x, 4);
        bringThrough(x, 1, 3);
        dueOrders(x, 2);
        dueAhead(x, 2, 3, 1);
        dueAhead(x, 0, 1, 1);
        dueAhead(x, 0, 3, 1);
        dueAhead(x, 3, 1, 0);
        x.book(2, 2, 10, 1, 2);
        Checks.due("orders of another book", 24, x.orders(1));
        Checks.due("ahead in another book", 0, x.ahead(1, 2, 0));
        dueOrders(x, 2);
        Checks.due("one piece, and the skeleton", 1001, x.shared(0, 2, 0));
        Checks.due("the other way", 1001, x.shared(0, 0, 2));
        Checks.due("two pieces, and another skeleton", 2, x.shared(0, 0, 3));
        Checks.due("two pieces, and the skeleton", 1002, x.shared(0, 0, 1));
        Checks.refuses(x, "shared with itself", Checks.ARGUMENT, () -> x.shared(0, 1, 1));
        Checks.refuses(x, "shared with forme 4", Checks.INDEX, () -> x.shared(0, 1, 4));
        Checks.refuses(x, "shared of forme -1", Checks.INDEX, () -> x.shared(0, -1, -1));
        Checks.refuses(x, "shared of no book", Checks.INDEX, () -> x.shared(2, 0, 1));
        Checks.refuses(x, "ahead of itself", Checks.ARGUMENT, () -> x.ahead(0, 1, 1));
        Checks.refuses(x, "ahead of forme 4", Checks.INDEX, () -> x.ahead(0, 1, 4));
        Checks.refuses(x, "forme 4 ahead of itself", Checks.INDEX, () -> x.ahead(0, 4, 4));
        Checks.refuses(x, "forme -1 ahead", Checks.INDEX, () -> x.ahead(0, -1, 0));
        Checks.refuses(x, "ahead in no book", Checks.INDEX, () -> x.ahead(2, 0, 1));
        Checks.refuses(x, "orders of no book", Checks.INDEX, () -> x.orders(2));
        Checks.refuses(x, "orders anew of no book", Checks.INDEX, () -> x.ordersAnew(-1));
    }

    /** What is seen in a forme is how its pieces were when it was DONE. */
    private static void seenWhenDone() {
        House x = house("aaaa/aaaa/aaaa/aaaa/aaaa/aaaa/aaaa/aaaa");
        setAndLock(x, 0, 0);
        x.wear(0);
        x.print(0, 0, 0);
        x.pass(2);
        x.wear(0);
        x.wear(1);
        x.putAway(0, 0, 0);
        x.wear(0);
        bringThrough(x, 1, 0);
        Checks.due("worn by 1 and by 3", 1001, x.shared(0, 0, 1));
        dueAhead(x, 0, 1, 1);
        dueOrders(x, 12);

        House y = house("aaaa/aaaa/aaaa/aaaa/aaaa/aaaa/aaaa/aaaa");
        y.wear(0);
        bringThrough(y, 0, 0);
        y.cast(0, 1);
        setAndLock(y, 1, 5);
        y.correct(0, 1, 1);
        y.print(0, 0, 1);
        y.pass(2);
        Checks.due("the worn piece was taken out", 0, y.piece(0, 2));
        Checks.due("shared with a forme out of which it was taken", 0, y.shared(0, 0, 1));
        Checks.due("formes that were not locked share no skeleton", 0, y.shared(0, 2, 3));
    }

    /** Formes are ahead of others by one that is between, be this the first one of the book or another. */
    private static void aheadByOthers() {
        aheadByOther("aaaa/aaaa/bbbb/aaaa/bbbb/aaaa/aaaa/bbbb", 0, 1);
        aheadByOther("aaaa/aaaa/aaaa/bbbb/bbbb/aaaa/aaaa/bbbb", 1, 0);
    }

    private static void aheadByOther(String copy, int first, int between) {
        House x = house(copy);
        x.wear(0);
        bringThrough(x, first, 0);
        for (int piece : new int[] {0, 8, 9, 10, 11, 12, 13, 14, 15}) {
            x.wear(piece);
        }
        for (int piece = 1; piece < 8; piece++) {
            x.wear(piece);
            x.wear(piece);
        }
        bringThrough(x, between, 1);
        for (int piece = 8; piece < 16; piece++) {
            x.wear(piece);
        }
        bringThrough(x, 2, 2);
        Checks.due("nothing shared", 0, x.shared(0, first, 2));
        Checks.due("the piece that the first two share", 1, x.shared(0, first, between));
        dueAhead(x, first, between, 1);
        dueAhead(x, between, 2, 1);
        dueAhead(x, first, 2, 1);
        dueAhead(x, first, 3, 0);
        dueOrders(x, 4);
    }

    private static void noWearAndMoreFormes() {
        House x = new House();
        x.book(2, 4, 10, 1, 2);
        x.book(2, 3, 10, 1, 2);
        x.book(8, 1, 10, 1, 2);
        dueOrders(x, 40320);
        Checks.due("orders of six formes", 720, x.orders(1));
        Checks.due("orders of six formes anew", 720, x.ordersAnew(1));
        Checks.due("orders of two formes", 2, x.orders(2));
        Checks.due("orders of two formes anew", 2, x.ordersAnew(2));
    }

    /** Sets the text, a line a page, by the hands that are told, one for each page. */
    private static House pages(int measure, int lines, String text, int... likes) {
        House x = new House();
        Checks.spelling(x, "do doe");
        Checks.spelling(x, "go gooee");
        for (int its = 0; its < 4; its++) {
            x.hand(its, 0, 0);
        }
        x.book(4, 1, measure, lines, 2);
        Checks.copy(x, 0, text);
        for (int page = 0; page < likes.length; page++) {
            x.set(0, page, likes[page]);
        }
        return x;
    }

    /** Promise 41. */
    private static void hands() {
        House x = pages(10, 1, "do/do");
        Checks.due("no page", 0, x.hands(0));
        Checks.refuses(x, "hands of no book", Checks.INDEX, () -> x.hands(1));
        Checks.due("pages without words", 1, pages(10, 1, "ab", 0, 1, 2).hands(0));
        Checks.due("two forms", 2, pages(10, 1, "do/do", 0, 1).hands(0));
        Checks.due("two forms the other way", 2, pages(10, 1, "doe/doe", 1, 0).hands(0));
        Checks.due("one form by two hands", 1, pages(10, 1, "do/do", 0, 2).hands(0));
        Checks.due("another spelling", 1, pages(10, 1, "do/go", 0, 3).hands(0));
        Checks.due("three hands", 3, pages(16, 1, "do go/do go/do go", 0, 1, 2).hands(0));
        Checks.due("four hands", 4, pages(16, 1, "do go/do go/do go/do go/do go", 0, 1, 2, 3, 0).hands(0));
        Checks.due("pages in a row", 2, pages(16, 1, "do/do go/go/do go", 1, 0, 2, 0).hands(0));
        Checks.due("3 units missing", 2, pages(10, 1, "abcd do/abc do", 0, 1).hands(0));
        Checks.due("2 units missing in one", 1, pages(10, 1, "abcd do/abcd do", 0, 1).hands(0));
        Checks.due("2 units missing in the other", 1, pages(10, 1, "abcde do/abc do", 0, 1).hands(0));
        Checks.due("a line that ended ahead of a word", 1, pages(10, 2, "do abcdefgh/do", 0, 1).hands(0));
        Checks.due("lines of a page", 2, pages(10, 2, "do/ab/doe/do", 0, 1).hands(0));
        crowdedHands();
        handsOfTwoBooks();
    }

    private static void handsOfTwoBooks() {
        House x = pages(10, 1, "do/do", 0, 1);
        x.book(2, 1, 10, 1, 2);
        Checks.copy(x, 1, "do/do");
        x.set(1, 0, 0);
        x.set(1, 1, 0);
        Checks.due("hands of one book", 2, x.hands(0));
        Checks.due("hands of the other one", 1, x.hands(1));
        Checks.due("hands of the first one again", 2, x.hands(0));
    }

    private static void crowdedHands() {
        House x = pages(10, 1, "do/abc ab/do");
        x.castOff(0, 100);
        x.set(0, 0, 3);
        Checks.due("crowded", 1, x.page(0, 0, 4));
        x.set(0, 1, 1);
        Checks.due("not crowded", 0, x.page(0, 1, 4));
        Checks.due("the long form", 1, x.line(0, 1, 0, 4) & 1);
        Checks.due("a crowded page is not loose", 1, x.hands(0));
    }

    private static House printable(int books, int edition) {
        House x = new House();
        x.hand(0, 0, 0);
        for (int press = 0; press < 3; press++) {
            x.men(press, 2);
        }
        for (int book = 0; book < books; book++) {
            x.book(2, 3, 10, 1, edition);
            Checks.copy(x, book, "a");
            for (int page = 0; page < 12; page++) {
                x.set(book, page, 0);
            }
        }
        for (int forme = 0; forme < 6; forme++) {
            x.lock(0, forme, forme);
        }
        return x;
    }

    /** Promise 42. */
    private static void presses() {
        House x = printable(1, 3);
        Checks.due("none DONE", 0, x.presses(0));
        x.print(0, 0, 0);
        x.pass(2);
        Checks.due("none DONE yet", 0, x.presses(0));
        x.pass(1);
        Checks.due("one forme in its hours", 1, x.presses(0));
        x.print(0, 0, 2);
        x.print(1, 0, 4);
        x.pass(3);
        Checks.due("three formes in six hours", 2, x.presses(0));
        x.putAway(0, 0, 0);
        Checks.due("GONE is counted, too", 2, x.presses(0));
        x.pass(6);
        Checks.due("hours behind the last one are not counted", 2, x.presses(0));
        Checks.refuses(x, "presses of no book", Checks.INDEX, () -> x.presses(1));

        House y = printable(1, 3);
        y.pass(5);
        for (int press = 0; press < 3; press++) {
            y.print(press, 0, 2 * press);
        }
        y.pass(3);
        Checks.due("sheets are rounded up", 3, y.presses(0));

        House z = printable(1, 2);
        z.pass(5);
        z.men(0, 0);
        z.print(0, 0, 0);
        z.pass(10);
        z.print(1, 0, 2);
        z.print(2, 0, 4);
        z.pass(2);
        Checks.due("a forme that is ON is not counted", 2, z.presses(0));
        z.men(0, 1);
        z.pass(3);
        Checks.due("when it is DONE it is", 1, z.presses(0));
    }

    private static void pressesAreRoundedUp() {
        House x = printable(1, 2);
        x.men(0, 1);
        x.men(1, 1);
        x.print(0, 0, 0);
        x.print(1, 0, 2);
        x.pass(3);
        Checks.due("four hours in three", 2, x.presses(0));
    }

    private static void pressesAndHolidays() {
        House x = printable(1, 2);
        x.pass(59);
        x.print(0, 0, 0);
        x.print(1, 0, 2);
        x.pass(12);
        Checks.due("DONE behind the holiday", 70, x.forme(0, 0, 4));
        Checks.due("a holiday is not counted", 2, x.presses(0));
        House y = printable(1, 2);
        y.pass(65);
        y.print(0, 0, 0);
        y.print(1, 0, 2);
        y.print(2, 0, 4);
        y.pass(7);
        Checks.due("put on a press in a holiday", 3, y.presses(0));
    }

    public static void main(String[] args) {
        sharedAndOrders();
        seenWhenDone();
        aheadByOthers();
        noWearAndMoreFormes();
        hands();
        presses();
        pressesAreRoundedUp();
        pressesAndHolidays();
        Checks.end();
    }
}
