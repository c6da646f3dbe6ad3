/** Ways in which tests bring a house further. */
final class Shop {
    private Shop() {
    }

    /** A house with a hand that does as it is told, two men at press 0, and a book without copy. */
    static House withBook(int format, int sheets, int measure, int lines, int edition) {
        House x = new House();
        x.hand(0, 0, 0);
        x.men(0, 2);
        x.book(format, sheets, measure, lines, edition);
        return x;
    }

    /** A house with one sheet of two leaves, a line of 10 units a page, and this copy. */
    static House withCopy(String copy) {
        House x = withBook(2, 1, 10, 1, 2);
        Checks.copy(x, 0, copy);
        return x;
    }

    /** Types many times the same word on the copy of a book. */
    static void copyMany(House x, int book, char word, int many) {
        for (int left = many; left > 0; left -= 20) {
            StringBuilder text = new StringBuilder().append(word);
            for (int i = 1; i < Math.min(left, 20); i++) {
                text.append(' ').append(word);
            }
            Checks.copy(x, book, text.toString());
        }
    }

    static void setPages(House x, int book, int from, int to) {
        for (int page = from; page < to; page++) {
            x.set(book, page, 0);
        }
    }

    /** Sets all pages of a book of four. */
    static void setAll(House x, int book) {
        setPages(x, book, 0, 4);
    }

    /** Puts a forme on press 0, and lets hours go by until it is DONE. */
    static void printOut(House x, int book, int forme) {
        x.print(0, book, forme);
        for (int i = 0; i < 9 && x.forme(book, forme, 0) == Leadchapel.ON; i++) {
            x.pass(13);
        }
    }

    /** Locks a forme, prints it, and puts it away. */
    static void bringThrough(House x, int book, int forme, int hand) {
        x.lock(book, forme, 0);
        printOut(x, book, forme);
        x.putAway(book, forme, hand);
    }

    /** A bound book of one sheet of two leaves, with the words of the copy on its first pages, a line each. */
    static House bound(String copy, int edition) {
        House x = withBook(2, 1, 10, 1, edition);
        Checks.copy(x, 0, copy);
        setAll(x, 0);
        for (int forme = 0; forme < 2; forme++) {
            x.lock(0, forme, forme);
            printOut(x, 0, forme);
        }
        x.bind(0);
        return x;
    }
}
