/** Promises 11 to 18 and 43: books, their copy, pages, lines, places, a book that follows another one. */
public final class BooksAndPagesTests {
    private static final String ALL = "abcdefghijklmnopqrstuvwxyz";

    private BooksAndPagesTests() {
    }

    /** A house with 9 pieces of each letter, the spellings do and doe, go and gooee, and a book of four pages. */
    private static House house(int measure, int lines, int... hands) {
        House x = new House();
        Checks.castAll(x, ALL, 9);
        Checks.spelling(x, "do doe");
        Checks.spelling(x, "go gooee");
        for (int hand : hands) {
            x.hand(hand, 0, 0);
        }
        x.book(2, 1, measure, lines, 2);
        return x;
    }

    private static void duePage(House x, int page, int words, int through, int crowded, int leftOut, int lines) {
        String what = "page " + page + ", ";
        Checks.due(what + "words", words, x.page(0, page, 2));
        Checks.due(what + "through", through, x.page(0, page, 3));
        Checks.due(what + "crowded", crowded, x.page(0, page, 4));
        Checks.due(what + "left out", leftOut, x.page(0, page, 5));
        Checks.due(what + "lines", lines, x.page(0, page, 7));
    }

    private static void dueLine(House x, int page, int line, int... told) {
        for (int what = 0; what < told.length; what++) {
            Checks.due("line " + page + " " + line + " " + what, told[what], x.line(0, page, line, what));
        }
    }

    /** Promise 11. */
    private static void book() {
        House x = new House();
        for (int format : new int[] {-2, 0, 1, 3, 5, 6, 7, 9, 16}) {
            Checks.refuses(x, "format " + format, Checks.ARGUMENT, () -> x.book(format, 1, 10, 1, 2));
        }
        int[][] bad = {
            {2, 0, 10, 1, 2}, {2, -1, 10, 1, 2}, {2, 5, 10, 1, 2}, {4, 3, 10, 1, 2}, {8, 2, 10, 1, 2},
            {8, 1 << 28, 10, 1, 2}, {2, 1, 9, 1, 2}, {2, 1, 25, 1, 2}, {2, 1, 10, 0, 2}, {2, 1, 10, 7, 2},
            {2, 1, 10, 1, 1}, {2, 1, 10, 1, 25}
        };
        for (int[] b : bad) {
            Checks.refuses(x, "book " + java.util.Arrays.toString(b), Checks.ARGUMENT,
                    () -> x.book(b[0], b[1], b[2], b[3], b[4]));
        }
        Checks.due("the first book", 0, x.book(2, 4, 10, 1, 2));
        Checks.due("the second book", 1, x.book(4, 2, 24, 6, 24));
        Checks.due("the third book", 2, x.book(8, 1, 10, 6, 24));
        Checks.refuses(x, "a fourth book", Checks.STATE, () -> x.book(2, 1, 10, 1, 2));
        Checks.refuses(x, "a fourth book out of range", Checks.ARGUMENT, () -> x.book(2, 1, 10, 1, 1));
        for (int book = 0; book < 3; book++) {
            int its = book;
            Checks.due("the last page of 16", book == 2 ? 0 : book == 1 ? 2 : 6, x.page(book, 15, 0));
            Checks.refuses(x, "page 16", Checks.INDEX, () -> x.page(its, 16, 0));
        }
        House y = new House();
        y.book(2, 1, 10, 1, 2);
        y.book(4, 1, 10, 1, 2);
        Checks.refuses(y, "page 4 of 4", Checks.INDEX, () -> y.page(0, 4, 0));
        Checks.refuses(y, "page 8 of 8", Checks.INDEX, () -> y.page(1, 8, 0));
    }

    /** Promise 12. */
    private static void copy() {
        House x = house(10, 2, 0);
        Checks.refuses(x, "copy of no text", Checks.ARGUMENT, () -> x.copy(0));
        Checks.type(x, "ab ");
        Checks.refuses(x, "copy of no whole text", Checks.ARGUMENT, () -> x.copy(0));
        Checks.refuses(x, "copy of no book", Checks.INDEX, () -> x.copy(1));
        Checks.refuses(x, "copy of book -1", Checks.INDEX, () -> x.copy(-1));
        Checks.due("the tape is kept", 3, x.wipe());
        Checks.due("copy", 2, Checks.copy(x, 0, "ab c"));
        Checks.due("the tape is empty then", 0, x.wipe());
        Checks.due("more copy", 3, Checks.copy(x, 0, "d"));
        for (int i = 0; i < 2; i++) {
            Checks.copy(x, 0, "a a a a a a a a a a a a a a a a a a a a");
        }
        Checks.type(x, "a a a a a a a a a a a a a a a a a a");
        Checks.refuses(x, "61 words", Checks.STATE, () -> x.copy(0));
        x.wipe();
        Checks.due("60 words", 60, Checks.copy(x, 0, "a a a a a a a a a a a a a a a a a"));
        Checks.type(x, "a");
        Checks.refuses(x, "one word more than 60", Checks.STATE, () -> x.copy(0));
        x.book(2, 1, 10, 1, 2);
        Checks.copy(x, 1, "a");
        x.castOff(1, 100);
        Checks.type(x, "a");
        Checks.refuses(x, "copy of a book that is cast off", Checks.STATE, () -> x.copy(1));
        x.type(' ', 1);
        Checks.refuses(x, "no text for a book that is cast off", Checks.ARGUMENT, () -> x.copy(1));
        x.wipe();
        x.book(2, 1, 10, 1, 2);
        Checks.copy(x, 2, "a");
        x.set(2, 0, 0);
        Checks.type(x, "a");
        Checks.refuses(x, "copy of a book with a page", Checks.STATE, () -> x.copy(2));
        Checks.due("the tape is kept", 1, x.wipe());
    }

    /** Promises 15 to 17: where lines and pages end. */
    private static void linesAndPages() {
        House x = house(10, 3, 0);
        Checks.copy(x, 0, "abc def gh/ij k");
        Checks.due("set", 0, x.set(0, 0, 0));
        duePage(x, 0, 5, 5, 0, 0, 2);
        dueLine(x, 0, 0, 3, 2, 0, 0, 0);
        dueLine(x, 0, 1, 2, 4, 6, 0, 0);
        dueLine(x, 0, 2, -1, -1, -1, -1, -1);
        Checks.due("the hand", 0, x.page(0, 0, 1));
        Checks.due("the places", 11, x.page(0, 0, 6));
        x.set(0, 1, 0);
        duePage(x, 1, 0, 5, 0, 0, 0);
        dueLine(x, 1, 0, -1, -1, -1, -1, -1);

        House y = house(10, 2, 0);
        Checks.copy(y, 0, "abcde fghij kl m");
        Checks.copy(y, 0, "n o");
        y.set(0, 0, 0);
        duePage(y, 0, 4, 4, 0, 0, 2);
        dueLine(y, 0, 0, 1, 0, 5, 1, 0);
        dueLine(y, 0, 1, 3, 3, 0, 0, 0);
        y.set(0, 1, 0);
        duePage(y, 1, 2, 6, 0, 0, 1);
        dueLine(y, 1, 0, 2, 5, 7, 0, 0);
    }

    /** As many words as a copy has on one page. */
    private static void allWordsOnOnePage() {
        House x = new House();
        x.cast(0, 40);
        x.cast(0, 20);
        x.hand(0, 0, 0);
        x.book(2, 1, 24, 6, 2);
        for (int i = 0; i < 3; i++) {
            Checks.copy(x, 0, "a a a a a a a a a a/a a a a a a a a a a");
        }
        Checks.due("empty places", 0, x.set(0, 0, 0));
        duePage(x, 0, 60, 60, 0, 0, 6);
        dueLine(x, 0, 5, 10, 59, 5, 0, 0);
        Checks.due("the last piece", 0, x.place(0, 0, 59, 0));
        Checks.due("no place behind it", -1, x.place(0, 0, 60, 0));
    }

    /** The last line of a page, and copy that is more than all pages hold. */
    private static void tooMuchCopy() {
        House x = house(10, 1, 0);
        Checks.copy(x, 0, "abcd efgh ijkl mnop q r/s/t/u");
        for (int page = 0; page < 4; page++) {
            x.set(0, page, 0);
        }
        duePage(x, 0, 2, 2, 0, 0, 1);
        dueLine(x, 0, 0, 2, 1, 0, 1, 0);
        dueLine(x, 1, 0, 2, 3, 0, 1, 0);
        dueLine(x, 2, 0, 2, 5, 7, 0, 0);
        dueLine(x, 3, 0, 1, 6, 9, 0, 0);
        duePage(x, 3, 1, 7, 0, 0, 1);
    }

    /** Promise 17: blanks and spellings that fill lines out. */
    private static void fillingOut() {
        House x = house(14, 6, 0);
        Checks.copy(x, 0, "ab c d efghijkl abc d e fghijkl");
        x.set(0, 0, 0);
        dueLine(x, 0, 0, 3, 2, 4, 1, 0);
        dueLine(x, 0, 1, 3, 5, 0, 1, 0);

        House y = house(10, 6, 0);
        Checks.copy(y, 0, "ab do efghijkl go do hijklmno");
        Checks.copy(y, 0, "do go ijklmnop do/go");
        y.set(0, 0, 0);
        dueLine(y, 0, 0, 2, 1, 2, 1, 1);
        dueLine(y, 0, 1, 1, 2, 2, 1, 0);
        y.set(0, 1, 0);
        dueLine(y, 0, 2, 2, 4, 0, 1, 2);
        dueLine(y, 0, 3, 1, 5, 2, 0, 0);
        dueLine(y, 0, 4, 2, 7, 2, 1, 1);
        dueLine(y, 0, 5, 1, 8, 2, 1, 0);
        dueLine(y, 1, 0, 1, 9, 8, 0, 0);
    }

    /** Forms that a hand likes, and short ones where these do not fit. */
    private static void likedForms() {
        House x = house(10, 3, 1);
        Checks.copy(x, 0, "abcdefg do xyz do doe/go gooee");
        x.set(0, 0, 0);
        dueLine(x, 0, 0, 2, 1, 0, 1, 0);
        dueLine(x, 0, 1, 3, 4, 0, 0, 1);
        dueLine(x, 0, 2, 2, 6, 5, 0, 0);
        Checks.due("places for the forms that are set", 9 + 8 + 4, x.page(0, 0, 6));

        House z = house(10, 1, 1);
        Checks.copy(z, 0, "abcdef do/abcdefg do");
        z.set(0, 0, 0);
        dueLine(z, 0, 0, 2, 1, 0, 0, 1);
        z.set(0, 1, 0);
        dueLine(z, 1, 0, 2, 3, 0, 0, 0);

        House y = house(24, 1, 0, 3);
        Checks.copy(y, 0, "doe gooee/do go");
        y.set(0, 0, 0);
        dueLine(y, 0, 0, 2, 1, 19, 0, 0);
        y.set(0, 1, 1);
        dueLine(y, 1, 0, 2, 3, 15, 0, 3);
    }

    /** Promise 14, and the parts that come of it. */
    private static void castOff() {
        int[][] all = {{100, 3, 5, 5}, {50, 2, 3, 5}, {150, 5, 5, 5}, {79, 2, 4, 5}, {80, 2, 5, 5}, {89, 2, 5, 5}, {90, 3, 5, 5}};
        for (int[] due : all) {
            House x = house(10, 1, 0);
            Checks.copy(x, 0, "abc def gh ij k");
            Checks.due("cast off by " + due[0], due[3], x.castOff(0, due[0]));
            for (int page = 3; page >= 0; page--) {
                x.set(0, page, 0);
            }
            for (int page = 1; page < 4; page++) {
                boolean hasWords = x.page(0, page, 2) > 0;
                int first = hasWords ? x.line(0, page, 0, 1) - x.line(0, page, 0, 0) + 1 : x.page(0, page, 3);
                Checks.due("the part of page " + page + " by " + due[0], due[page], first);
            }
        }
        House y = house(11, 1, 0);
        Checks.copy(y, 0, "ab ab ab ab ab ab ab ab ab ab");
        Checks.due("a page holds rounded down", 6, y.castOff(0, 55));
        House z = house(10, 2, 0);
        Checks.copy(z, 0, "do doe do doe do doe");
        Checks.due("units are of words as told", 6, z.castOff(0, 60));
        House v = house(10, 1, 0);
        Checks.copy(v, 0, "abcd abcd abcd abcd abcd abcd");
        Checks.due("the last part of four", 3, v.castOff(0, 50));
        for (int page = 0; page < 4; page++) {
            v.set(0, page, 0);
            duePage(v, page, page < 3 ? 1 : 2, page < 3 ? page + 1 : 5, page < 3 ? 0 : 1, page < 3 ? 0 : 1, 1);
        }
        castOffRefused();
    }

    private static void castOffRefused() {
        House x = house(10, 1, 0);
        Checks.refuses(x, "cast off without copy", Checks.STATE, () -> x.castOff(0, 100));
        Checks.refuses(x, "49 percent without copy", Checks.ARGUMENT, () -> x.castOff(0, 49));
        Checks.copy(x, 0, "ab cd");
        Checks.refuses(x, "49 percent", Checks.ARGUMENT, () -> x.castOff(0, 49));
        Checks.refuses(x, "151 percent", Checks.ARGUMENT, () -> x.castOff(0, 151));
        Checks.refuses(x, "cast off of no book", Checks.INDEX, () -> x.castOff(1, 49));
        Checks.refuses(x, "set of a page that is not ahead", Checks.STATE, () -> x.set(0, 1, 0));
        x.castOff(0, 50);
        Checks.refuses(x, "cast off again", Checks.STATE, () -> x.castOff(0, 50));
        x.book(2, 1, 10, 1, 2);
        Checks.copy(x, 1, "ab");
        x.set(1, 0, 0);
        Checks.refuses(x, "cast off with a page", Checks.STATE, () -> x.castOff(1, 150));
    }

    /** Crowded pages. */
    private static void crowded() {
        House x = house(10, 1, 1);
        Checks.copy(x, 0, "do ab cd ef gh ij");
        x.castOff(0, 150);
        x.set(0, 0, 0);
        duePage(x, 0, 3, 3, 1, 2, 1);
        dueLine(x, 0, 0, 3, 2, 0, 1, 0);
        x.set(0, 1, 0);
        duePage(x, 1, 1, 6, 0, 0, 1);

        House y = house(10, 1, 1);
        Checks.copy(y, 0, "do abcdefg ab");
        y.castOff(0, 110);
        y.set(0, 0, 0);
        duePage(y, 0, 2, 2, 1, 0, 1);
        dueLine(y, 0, 0, 2, 1, 0, 0, 0);

        House z = house(10, 1, 0);
        Checks.copy(z, 0, "a do/ab bcd");
        z.castOff(0, 150);
        z.set(0, 0, 0);
        duePage(z, 0, 2, 2, 1, 2, 1);
        dueLine(z, 0, 0, 2, 1, 6, 0, 0);

        House w = house(10, 1, 0);
        Checks.copy(w, 0, "a do bcdefgh ijkl");
        w.castOff(0, 150);
        w.set(0, 0, 0);
        dueLine(w, 0, 0, 2, 1, 4, 1, 0);
    }

    private static void dueSkipped(String text, int skips, int words, int through, int lines, int last) {
        House x = new House();
        x.hand(0, 0, skips);
        x.book(2, 1, 24, 3, 2);
        Checks.copy(x, 0, text);
        x.set(0, 0, 0);
        String what = "'" + text + "' by " + skips + ", ";
        Checks.due(what + "words", words, x.page(0, 0, 2));
        Checks.due(what + "through", through, x.page(0, 0, 3));
        Checks.due(what + "lines", lines, x.page(0, 0, 7));
        Checks.due(what + "last word of line 0", last, x.line(0, 0, 0, 1));
    }

    /** The eye that skips. */
    private static void skips() {
        dueSkipped("ab cd ab ef", 0, 4, 4, 1, 3);
        dueSkipped("ab cd ab ef", 1, 2, 4, 1, 3);
        dueSkipped("ab cd ab ef", 2, 4, 4, 1, 3);
        dueSkipped("ab c d e ab f", 1, 2, 6, 1, 5);
        dueSkipped("ab c d e f ab", 1, 6, 6, 1, 5);
        dueSkipped("ab ab ab x", 1, 3, 4, 1, 3);
        dueSkipped("ab ab ab x", 2, 3, 4, 1, 3);
        dueSkipped("a b a b a b x", 2, 5, 7, 1, 6);
        dueSkipped("ab cd/ab ef", 1, 2, 4, 1, 3);
        dueSkipped("ab/cd ab ef", 1, 2, 4, 2, 0);
        dueSkipped("ab cd ab/ef", 1, 2, 4, 1, 3);
        dueSkipped("ab cd ab", 1, 1, 3, 1, 0);
        dueSkipped("ab/ab ab/ab ab/ab", 9, 5, 5, 3, 0);
        dueSkipped("ab/ab ab/ab ab/ab", 5, 5, 6, 3, 0);

        House x = house(10, 1, 0);
        x.hand(0, 0, 2);
        Checks.copy(x, 0, "a x a/b y b c/do doe z");
        x.set(0, 0, 1);
        x.set(0, 1, 1);
        duePage(x, 0, 3, 3, 0, 0, 1);
        duePage(x, 1, 2, 7, 0, 0, 1);
        dueLine(x, 1, 0, 2, 6, 7, 0, 0);
        x.set(0, 2, 1);
        duePage(x, 2, 3, 10, 0, 0, 1);
    }

    /** Chances are those of the part, and are counted anew for a crowded page. */
    private static void skipsInParts() {
        House x = house(10, 1, 0);
        x.hand(0, 0, 1);
        Checks.copy(x, 0, "ab cd ab ef");
        x.castOff(0, 50);
        x.set(0, 0, 1);
        duePage(x, 0, 2, 2, 0, 0, 1);

        House y = house(10, 1, 0);
        y.hand(0, 0, 2);
        Checks.copy(y, 0, "a a bcde bcdefg hi a x a y");
        y.castOff(0, 150);
        y.set(0, 0, 1);
        duePage(y, 0, 3, 3, 1, 1, 1);
        y.set(0, 1, 1);
        duePage(y, 1, 3, 9, 0, 0, 1);
    }

    /** Promise 18: places, and what fills them. */
    private static void places() {
        House x = new House();
        x.cast(13, 1);
        x.cast(20, 3);
        x.cast(26, 1);
        x.cast(5, 2);
        x.cast(8, 2);
        x.hand(0, 0, 0);
        x.book(2, 1, 10, 2, 2);
        Checks.copy(x, 0, "nun fin fin in nun");
        Checks.refuses(x, "place -1", Checks.INDEX, () -> x.place(0, 0, -1, 0));
        Checks.due("place ahead of set", -1, x.place(0, 0, 0, 1));
        Checks.due("empty places", 5, x.set(0, 0, 0));
        int[][] due = {
            {0, 13, 0}, {3, 20, 0}, {2, 13, 1}, {4, 26, 0}, {1, 13, 1}, {6, 5, 0}, {8, 8, 0}, {-1, 13, 0}, {7, 8, 0},
            {-1, 13, 0}, {-1, 13, 0}, {-1, 20, 0}, {-1, 13, 0}, {-1, -1, -1}
        };
        for (int place = 0; place < due.length; place++) {
            for (int what = 0; what < 3; what++) {
                Checks.due("place " + place + " " + what, due[place][what], x.place(0, 0, place, what));
            }
        }
        Checks.due("where a piece is", 100, x.piece(2, 2));
        Checks.due("a box that is empty then", -1, x.box(20, 0));
        Checks.due("pieces taken", 8, x.account(0, 0));
        Checks.refuses(x, "place, what 3", Checks.ARGUMENT, () -> x.place(0, 0, 0, 3));
        Checks.refuses(x, "place, what -1", Checks.ARGUMENT, () -> x.place(0, 0, 0, -1));
        Checks.refuses(x, "place -1, what 3", Checks.INDEX, () -> x.place(0, 0, -1, 3));
        Checks.refuses(x, "place of page 4", Checks.INDEX, () -> x.place(0, 4, 0, 0));
        Checks.refuses(x, "place of book 1", Checks.INDEX, () -> x.place(1, 0, 0, 0));
        turnedPlaces();
        joinedPlaces();
    }

    private static void turnedPlaces() {
        String wanted = "nubqdpmwf";
        String other = "unqbpdwmt";
        for (int i = 0; i < wanted.length(); i++) {
            House x = new House();
            x.hand(0, 0, 0);
            x.book(2, 1, 10, 1, 2);
            x.cast(Checks.sort(other.charAt(i)), 2);
            Checks.copy(x, 0, wanted.substring(i, i + 1));
            Checks.due("empty places of " + wanted.charAt(i), i < 6 ? 0 : 1, x.set(0, 0, 0));
            Checks.due("piece for " + wanted.charAt(i), i < 6 ? 1 : -1, x.place(0, 0, 0, 0));
            Checks.due("turned for " + wanted.charAt(i), i < 6 ? 1 : 0, x.place(0, 0, 0, 2));
        }
    }

    private static void joinedPlaces() {
        House x = new House();
        x.hand(0, 0, 0);
        x.book(2, 1, 24, 1, 2);
        x.book(2, 1, 24, 1, 2);
        x.cast(26, 1);
        x.cast(27, 2);
        Checks.copy(x, 1, "ffi fli fi if f i fl");
        Checks.due("empty places", 8, x.set(1, 0, 0));
        int[] due = {5, 26, 27, 8, 5, 8, 8, 5, 5, 8, 27};
        Checks.due("places", due.length, x.page(1, 0, 6));
        for (int place = 0; place < due.length; place++) {
            Checks.due("place " + place, due[place], x.place(1, 0, place, 1));
        }
        Checks.due("where a piece is", 200, x.piece(0, 2));
        x.set(1, 1, 0);
        x.cast(0, 1);
        Checks.copy(x, 0, "a/a/a/a");
        for (int page = 0; page < 2; page++) {
            x.set(0, page, 0);
        }
        Checks.due("where a piece of the first book is", 100, x.piece(3, 2));
        x.cast(0, 2);
        x.set(0, 2, 0);
        x.set(0, 3, 0);
        Checks.due("on page 2", 102, x.piece(5, 2));
        Checks.due("on page 3", 103, x.piece(4, 2));
    }

    /** Promises 15 to 17: what is refused. */
    private static void refused() {
        House x = house(10, 1, 0);
        Checks.refuses(x, "set without copy", Checks.STATE, () -> x.set(0, 0, 0));
        Checks.refuses(x, "set by no hand, without copy", Checks.INDEX, () -> x.set(0, 0, 1));
        Checks.copy(x, 0, "ab");
        Checks.refuses(x, "set of page 4", Checks.INDEX, () -> x.set(0, 4, 0));
        Checks.refuses(x, "set of page -1", Checks.INDEX, () -> x.set(0, -1, 0));
        Checks.refuses(x, "set of no book", Checks.INDEX, () -> x.set(1, 0, 0));
        Checks.refuses(x, "set by hand -1", Checks.INDEX, () -> x.set(0, 0, -1));
        Checks.refuses(x, "set of a part that does not begin", Checks.STATE, () -> x.set(0, 2, 0));
        for (int what = 1; what < 9; what++) {
            Checks.due("page that is not set, " + what, -1, x.page(0, 0, what));
        }
        x.set(0, 0, 0);
        Checks.refuses(x, "set again", Checks.STATE, () -> x.set(0, 0, 0));
        int[] formes = {0, 1, 1, 0};
        for (int page = 0; page < 4; page++) {
            Checks.due("forme of page " + page, formes[page], x.page(0, page, 0));
        }
        Checks.refuses(x, "page, what 9", Checks.ARGUMENT, () -> x.page(0, 0, 9));
        Checks.refuses(x, "page, what -1", Checks.ARGUMENT, () -> x.page(0, 0, -1));
        Checks.refuses(x, "page 4, what 9", Checks.INDEX, () -> x.page(0, 4, 9));
        Checks.refuses(x, "page of no book", Checks.INDEX, () -> x.page(1, 0, 0));
        Checks.refuses(x, "line -1", Checks.INDEX, () -> x.line(0, 0, -1, 5));
        Checks.refuses(x, "line of page 4", Checks.INDEX, () -> x.line(0, 4, 0, 0));
        Checks.refuses(x, "line of no book", Checks.INDEX, () -> x.line(1, 0, 0, 0));
        Checks.refuses(x, "line, what 5", Checks.ARGUMENT, () -> x.line(0, 0, 0, 5));
        Checks.refuses(x, "line far below, what -1", Checks.ARGUMENT, () -> x.line(0, 0, 99, -1));
        Checks.due("a line far below", -1, x.line(0, 0, Integer.MAX_VALUE, 0));
        Checks.due("a place far below", -1, x.place(0, 0, Integer.MAX_VALUE, 0));
    }

    /** Promise 13. */
    private static void follow() {
        House x = house(10, 2, 3, 0);
        x.book(2, 1, 24, 6, 2);
        Checks.copy(x, 0, "do go/ab cd doe efghijkl do/m");
        Checks.refuses(x, "follow a book without pages", Checks.STATE, () -> x.follow(1, 0));
        Checks.refuses(x, "follow itself", Checks.ARGUMENT, () -> x.follow(0, 0));
        Checks.refuses(x, "follow no book", Checks.INDEX, () -> x.follow(0, 2));
        Checks.refuses(x, "no book follows", Checks.INDEX, () -> x.follow(2, 0));
        Checks.refuses(x, "no book follows itself", Checks.INDEX, () -> x.follow(2, 2));
        x.set(0, 0, 0);
        dueLine(x, 0, 0, 2, 1, 1, 0, 3);
        dueLine(x, 0, 1, 3, 4, 0, 1, 1);
        x.set(0, 1, 1);
        dueLine(x, 1, 0, 1, 5, 2, 1, 0);
        dueLine(x, 1, 1, 1, 6, 8, 0, 0);
        Checks.due("follow", 7, x.follow(1, 0));
        Checks.refuses(x, "follow a second time", Checks.STATE, () -> x.follow(1, 0));
        Checks.refuses(x, "follow into a book with copy", Checks.STATE, () -> x.follow(0, 1));
        x.set(1, 0, 1);
        Checks.due("lines", 4, x.page(1, 0, 7));
        int[] lasts = {1, 4, 5, 6};
        for (int line = 0; line < 4; line++) {
            Checks.due("line " + line + " ends as there", lasts[line], x.line(1, 0, line, 1));
        }
        Checks.due("follows", 4, x.follows(1, 0));
        Checks.due("follows the other way", 4, x.follows(0, 1));
        Checks.due("follows itself", 4, x.follows(0, 0));
    }

    /** Promise 13: the words are told in the forms that are on the pages. */
    private static void followForms() {
        House x = house(10, 1, 3, 0);
        x.book(2, 1, 10, 1, 2);
        Checks.copy(x, 0, "do go/do go/m");
        x.set(0, 0, 0);
        x.set(0, 1, 1);
        Checks.due("two pages", 4, x.follow(1, 0));
        Checks.due("cast off by the forms that were there", 4, x.castOff(1, 80));
        x.set(1, 0, 1);
        Checks.due("words of the part of page 0", 2, x.page(1, 0, 2));
        Checks.due("through the part of page 0", 2, x.page(1, 0, 3));
        x.set(1, 1, 1);
        Checks.due("words of the part of page 1", 2, x.page(1, 1, 2));
    }

    private static void followOneWord() {
        House x = house(10, 1, 0);
        x.book(2, 1, 10, 1, 2);
        Checks.copy(x, 0, "ab/c");
        x.set(0, 0, 0);
        Checks.due("a book with one word on its pages", 1, x.follow(1, 0));
        Checks.due("and copy behind it", 2, Checks.copy(x, 1, "d"));
        x.set(1, 0, 0);
        dueText(x, 1, 0);
    }

    private static void dueText(House x, int book, int page) {
        Checks.due("the only word", 1, x.line(book, page, 0, 0));
        Checks.due("its first letter", 0, x.place(book, page, 0, 1));
        Checks.due("its last letter", 1, x.place(book, page, 1, 1));
    }

    /** Promise 43. */
    private static void follows() {
        House x = house(10, 2, 0);
        x.book(2, 1, 10, 6, 2);
        x.book(2, 1, 10, 6, 2);
        Checks.copy(x, 0, "ab do/ef/gh/go");
        Checks.copy(x, 1, "doe/ef gh/gh/doe/gh");
        for (int page = 0; page < 2; page++) {
            x.set(0, page, 0);
        }
        x.set(1, 0, 0);
        Checks.due("same spelling and same word", 2, x.follows(0, 1));
        Checks.due("the other way", 2, x.follows(1, 0));
        Checks.due("nothing to follow", 0, x.follows(0, 2));
        Checks.due("nothing that follows", 0, x.follows(2, 0));
        Checks.refuses(x, "follows no book", Checks.INDEX, () -> x.follows(0, 3));
        Checks.refuses(x, "no book that follows", Checks.INDEX, () -> x.follows(-1, 0));
    }

    public static void main(String[] args) {
        book();
        copy();
        linesAndPages();
        allWordsOnOnePage();
        tooMuchCopy();
        fillingOut();
        likedForms();
        castOff();
        crowded();
        skips();
        skipsInParts();
        places();
        refused();
        follow();
        followForms();
        followOneWord();
        follows();
        Checks.end();
    }
}
