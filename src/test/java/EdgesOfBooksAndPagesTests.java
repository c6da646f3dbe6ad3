/** Each boundary case of promises 11 to 18, by the sentence that names it: books, copy, pages, lines, places. */
public final class EdgesOfBooksAndPagesTests {
    private EdgesOfBooksAndPagesTests() {
    }

    // ---- promise 11

    private static void book() {
        Checks.holds(11, "format: 2, 4 or 8", () -> {
            for (int format = -9; format <= 20; format++) {
                dueFormat(format);
            }
            dueFormat(Integer.MIN_VALUE);
            dueFormat(Integer.MAX_VALUE);
        });
        Checks.holds(11, "sheets: 1 on, so that it has at most 16 pages", () -> {
            for (int format = 2; format <= 8; format *= 2) {
                dueSheets(format, 8 / format);
            }
        });
        Checks.holds(11, "measure: 10 to 24", () -> {
            Checks.takes(10, 24, House::new, (x, value) -> Checks.due("book", 0, x.book(2, 1, value, 1, 2)));
            Checks.refusesBeyond(10, 24, Checks.ARGUMENT, House::new, (x, value) -> x.book(2, 1, value, 1, 2));
        });
        Checks.holds(11, "lines: 1 to 6", () -> {
            Checks.takes(1, 6, House::new, (x, value) -> Checks.due("book", 0, x.book(2, 1, 10, value, 2)));
            Checks.refusesBeyond(1, 6, Checks.ARGUMENT, House::new, (x, value) -> x.book(2, 1, 10, value, 2));
        });
        Checks.holds(11, "edition: 2 to 24", () -> {
            Checks.takes(2, 24, House::new, (x, value) -> Checks.due("book", 0, x.book(2, 1, 10, 1, value)));
            Checks.refusesBeyond(2, 24, Checks.ARGUMENT, House::new, (x, value) -> x.book(2, 1, 10, 1, value));
        });
        Checks.holds(11, "numbered from 0, at most 3", () -> {
            House x = new House();
            Checks.refuses(x, "edition 25", Checks.ARGUMENT, () -> x.book(2, 1, 10, 1, 25));
            for (int number = 0; number < 3; number++) {
                Checks.due("book", number, x.book(2, 4, 24, 6, 24));
            }
            Checks.refuses(x, "a fourth book", Checks.STATE, () -> x.book(2, 1, 10, 1, 2));
            Checks.refuses(x, "book 3", Checks.INDEX, () -> x.page(3, 0, 0));
        });
        Checks.holds(11, "IllegalArgumentException is named first", () -> {
            House x = new House();
            for (int number = 0; number < 3; number++) {
                x.book(2, 1, 10, 1, 2);
            }
            int[][] bad = {{3, 1, 10, 1, 2}, {2, 5, 10, 1, 2}, {2, 0, 10, 1, 2}, {2, 1, 9, 1, 2}, {2, 1, 25, 1, 2},
                {2, 1, 10, 0, 2}, {2, 1, 10, 7, 2}, {2, 1, 10, 1, 1}, {2, 1, 10, 1, 25}};
            for (int[] b : bad) {
                Checks.refuses(x, "a fourth book, out of range", Checks.ARGUMENT,
                        () -> x.book(b[0], b[1], b[2], b[3], b[4]));
            }
        });
    }

    private static void dueFormat(int format) {
        House x = new House();
        if (format == 2 || format == 4 || format == 8) {
            Checks.due("format " + format, 0, x.book(format, 1, 10, 1, 2));
        } else {
            Checks.refuses(x, "format " + format, Checks.ARGUMENT, () -> x.book(format, 1, 10, 1, 2));
        }
    }

    private static void dueSheets(int format, int most) {
        Checks.refusesBeyond(1, most, Checks.ARGUMENT, House::new, (x, sheets) -> x.book(format, sheets, 10, 1, 2));
        House none = new House();
        for (int power = 4; power < 32; power++) {
            int many = 1 << power;
            Checks.refuses(none, many + " sheets", Checks.ARGUMENT, () -> none.book(format, many, 10, 1, 2));
            Checks.refuses(none, many + " sheets and one", Checks.ARGUMENT,
                    () -> none.book(format, many + 1, 10, 1, 2));
        }
        for (int sheets = 1; sheets <= most; sheets++) {
            House x = new House();
            int pages = 2 * format * sheets;
            Checks.due(sheets + " sheets", 0, x.book(format, sheets, 10, 1, 2));
            Checks.due("the forme of the last page", 2 * sheets - 2, x.page(0, pages - 1, 0));
            Checks.refuses(x, "the page behind the last one", Checks.INDEX, () -> x.page(0, pages, 0));
            Checks.due("the last forme", Leadchapel.OPEN, x.forme(0, 2 * sheets - 1, 0));
            int formes = 2 * sheets;
            Checks.refuses(x, "the forme behind the last one", Checks.INDEX, () -> x.forme(0, formes, 0));
        }
    }

    // ---- promise 12

    private static House withWords(int many) {
        House x = Shop.withBook(2, 1, 24, 6, 2);
        Shop.copyMany(x, 0, 'a', many);
        return x;
    }

    private static String words(int many) {
        return "b" + " b".repeat(many - 1);
    }

    private static void copy() {
        Checks.holds(12, "it would have more than 60 words", () -> {
            Checks.due("20 more than 40", 60, Checks.copy(withWords(40), 0, words(20)));
            for (int had = 41; had <= 60; had++) {
                House x = withWords(had);
                Checks.type(x, words(61 - had));
                Checks.refuses(x, "61 words, from " + had, Checks.STATE, () -> x.copy(0));
                x.wipe();
                if (had < 60) {
                    Checks.due("60 words, from " + had, 60, Checks.copy(x, 0, words(60 - had)));
                }
            }
        });
        Checks.holds(12, "if the tape is no text", () -> {
            for (String text : new String[] {"", " ", "/", "a ", "a/", "a  b", "abcdefghi", " a"}) {
                House x = Shop.withBook(2, 1, 10, 1, 2);
                Checks.type(x, text);
                Checks.refuses(x, "copy of '" + text + "'", Checks.ARGUMENT, () -> x.copy(0));
                Checks.due("the tape is as it was", text.length(), x.wipe());
            }
            Checks.due("a word of one letter", 1, Checks.copy(Shop.withBook(2, 1, 10, 1, 2), 0, "a"));
            Checks.due("words of eight letters", 4,
                    Checks.copy(Shop.withBook(2, 1, 10, 1, 2), 0, "abcdefgh abcdefgh/abcdefgh abcdefgh"));
            Checks.due("a full tape", 20,
                    Checks.copy(Shop.withBook(2, 1, 10, 1, 2), 0, "ab b c d e f g h i j k l m n o p q r s t"));
        });
        Checks.holds(12, "behind the copy of a book; the tape is empty then", () -> {
            House x = Shop.withBook(2, 1, 10, 1, 2);
            Checks.due("two words", 2, Checks.copy(x, 0, "ab cd"));
            Checks.due("the tape", 0, x.wipe());
            Checks.due("one more", 3, Checks.copy(x, 0, "e"));
        });
        Checks.holds(12, "the book is cast off, or a page of it is set", () -> {
            House x = Shop.withCopy("ab");
            x.castOff(0, 100);
            Checks.type(x, "c");
            Checks.refuses(x, "a book that is cast off", Checks.STATE, () -> x.copy(0));
            House y = Shop.withCopy("ab");
            y.set(0, 0, 0);
            Checks.type(y, "c");
            Checks.refuses(y, "a book with a page", Checks.STATE, () -> y.copy(0));
            Checks.due("the tape is as it was", 1, y.wipe());
        });
        Checks.holds(12, "no such book, then no text, then the states", () -> {
            House x = withWords(60);
            Checks.refusesBeyond(0, 0, Checks.INDEX, () -> withWords(60), (y, book) -> y.copy(book));
            Checks.refuses(x, "no text for 60 words", Checks.ARGUMENT, () -> x.copy(0));
            x.castOff(0, 100);
            Checks.refuses(x, "no text for a book that is cast off", Checks.ARGUMENT, () -> x.copy(0));
            x.set(0, 0, 0);
            Checks.refuses(x, "no text for a book with a page", Checks.ARGUMENT, () -> x.copy(0));
            Checks.refuses(x, "no text for no book", Checks.INDEX, () -> x.copy(1));
        });
        Checks.holds(12, "A word ends a line, if a stroke is behind it, or if it is the last one of a text", () -> {
            House x = Shop.withBook(2, 1, 24, 6, 2);
            Checks.copy(x, 0, "a b/c");
            Checks.copy(x, 0, "d");
            Checks.copy(x, 0, "e f");
            x.set(0, 0, 0);
            int[] words = {2, 1, 1, 2};
            for (int line = 0; line < 4; line++) {
                Checks.due("words of line " + line, words[line], x.line(0, 0, line, 0));
            }
        });
    }

    // ---- promise 13

    private static House withTwoBooks(String copy) {
        House x = Shop.withCopy(copy);
        x.book(2, 1, 24, 6, 2);
        return x;
    }

    private static void follow() {
        Checks.holds(13, "no such book, of either", () -> {
            House x = withTwoBooks("ab cd");
            x.set(0, 0, 0);
            for (int none : new int[] {Integer.MIN_VALUE, -1, 2, Integer.MAX_VALUE}) {
                Checks.refuses(x, "book " + none, Checks.INDEX, () -> x.follow(none, 0));
                Checks.refuses(x, "other book " + none, Checks.INDEX, () -> x.follow(1, none));
                Checks.refuses(x, "both " + none, Checks.INDEX, () -> x.follow(none, none));
            }
        });
        Checks.holds(13, "if both are the same", () -> {
            House x = withTwoBooks("ab cd");
            x.set(0, 0, 0);
            Checks.refuses(x, "a book with copy", Checks.ARGUMENT, () -> x.follow(0, 0));
            Checks.refuses(x, "a book without copy", Checks.ARGUMENT, () -> x.follow(1, 1));
        });
        Checks.holds(13, "the book has copy", () -> {
            House x = withTwoBooks("ab cd");
            x.set(0, 0, 0);
            Checks.copy(x, 1, "a");
            Checks.refuses(x, "a book with one word", Checks.STATE, () -> x.follow(1, 0));
            House y = withTwoBooks("ab cd");
            y.set(0, 0, 0);
            Checks.due("a book without copy", 2, y.follow(1, 0));
            Checks.refuses(y, "once more", Checks.STATE, () -> y.follow(1, 0));
        });
        Checks.holds(13, "or the other one has no word on its pages", () -> {
            House x = withTwoBooks("ab");
            Checks.refuses(x, "no page is set", Checks.STATE, () -> x.follow(1, 0));
            x.castOff(0, 50);
            x.set(0, 3, 0);
            Checks.due("a page without words", 0, x.page(0, 3, 2));
            Checks.refuses(x, "a page without words", Checks.STATE, () -> x.follow(1, 0));
            x.set(0, 0, 0);
            Checks.due("one word", 1, x.follow(1, 0));
        });
        Checks.holds(13, "a call that throws an exception changes nothing", () -> {
            House x = withTwoBooks("ab");
            Checks.refuses(x, "no page is set", Checks.STATE, () -> x.follow(1, 0));
            Checks.refuses(x, "itself", Checks.ARGUMENT, () -> x.follow(1, 1));
            Checks.due("copy from the first word on", 1, Checks.copy(x, 1, "cd"));
        });
        Checks.holds(13, "by rising pages: all its words", () -> {
            House x = withTwoBooks("abcd/efgh/ijkl/mnop");
            x.castOff(0, 50);
            x.set(0, 2, 0);
            x.set(0, 0, 0);
            Checks.due("two pages of four", 2, x.follow(1, 0));
            x.set(1, 0, 0);
            Checks.due("the first letter of the first word", 0, x.place(1, 0, 0, 1));
            Checks.due("the first letter of the second word", 8, x.place(1, 0, 4, 1));
            House full = Shop.withBook(2, 1, 24, 6, 2);
            full.book(2, 1, 24, 6, 2);
            Shop.copyMany(full, 0, 'a', 60);
            full.set(0, 0, 0);
            Checks.due("60 words", 60, full.follow(1, 0));
            Checks.type(full, "a");
            Checks.refuses(full, "a word more", Checks.STATE, () -> full.copy(1));
        });
        Checks.holds(13, "the last word of each line ends a line, no other", EdgesOfBooksAndPagesTests::followedLines);
        Checks.holds(13, "in the forms in which they are there", EdgesOfBooksAndPagesTests::followedForms);
    }

    private static void followedLines() {
        House x = Shop.withBook(2, 1, 10, 2, 2);
        x.hand(0, 0, 1);
        x.book(2, 1, 24, 6, 2);
        Checks.copy(x, 0, "abc abc/abcdef ghijk l m/m n");
        x.set(0, 0, 1);
        x.set(0, 1, 1);
        Checks.due("abc, behind whose twin a line ended, and abcdef", 2, x.line(0, 0, 0, 0));
        Checks.due("ghijk, l and m, which ends a line", 3, x.line(0, 0, 1, 0));
        Checks.due("follow", 6, x.follow(1, 0));
        x.set(1, 0, 0);
        int[] words = {2, 3, 1, Leadchapel.NONE};
        for (int line = 0; line < 4; line++) {
            Checks.due("words of line " + line, words[line], x.line(1, 0, line, 0));
        }
    }

    private static void followedForms() {
        House x = new House();
        Checks.spelling(x, "do doe");
        x.hand(1, 0, 0);
        x.hand(0, 0, 0);
        x.book(2, 1, 10, 1, 2);
        x.book(2, 1, 10, 1, 2);
        Checks.copy(x, 0, "do do do do/do doe");
        x.set(0, 0, 0);
        x.set(0, 1, 1);
        Checks.due("doe, doe and do, which the long form did not fit; and do", 4, x.follow(1, 0));
        Checks.due("the part of the last page", 4, x.castOff(1, 70));
        x.set(1, 0, 1);
        Checks.due("a part of 7 units, or 4 and 4", 2, x.page(1, 0, 3));
        x.set(1, 1, 1);
        Checks.due("a part up to 14 units, or 4 and 4 and 3 and 3", 4, x.page(1, 1, 3) + x.page(1, 1, 5));
        followedBySkips();
    }

    /** A line has the long form three times, and the short one last; the eye skips from a form to the same one alone. */
    private static void followedBySkips() {
        House x = new House();
        Checks.spelling(x, "do doe");
        x.hand(1, 0, 0);
        x.hand(0, 0, 1);
        x.book(2, 1, 14, 1, 2);
        x.book(2, 1, 14, 1, 2);
        Checks.copy(x, 0, "do do do do");
        x.set(0, 0, 0);
        Checks.due("doe, doe, doe and do", 0, x.line(0, 0, 0, 2));
        Checks.due("with a long form", 1, x.line(0, 0, 0, 4));
        Checks.due("words", 4, x.follow(1, 0));
        x.set(1, 0, 1);
        Checks.due("a doe for two, a doe, and a do", 3, x.page(1, 0, 2));
        Checks.due("through all", 4, x.page(1, 0, 3));
    }

    // ---- promise 14

    private static void castOff() {
        Checks.holds(14, "percent: 50 to 150", () -> {
            Checks.takes(50, 150, () -> Shop.withCopy("a"), (x, value) -> Checks.due("end", 1, x.castOff(0, value)));
            Checks.refusesBeyond(50, 150, Checks.ARGUMENT, () -> Shop.withCopy("a"), (x, value) -> x.castOff(0, value));
        });
        Checks.holds(14, "no such book", () -> Checks.refusesBeyond(0, 0, Checks.INDEX, () -> Shop.withCopy("a"),
                (x, book) -> x.castOff(book, 100)));
        Checks.holds(14, "it has no copy, is cast off, or a page of it is set", () -> {
            House x = Shop.withBook(2, 1, 10, 1, 2);
            Checks.refuses(x, "no copy", Checks.STATE, () -> x.castOff(0, 100));
            Checks.copy(x, 0, "a");
            x.castOff(0, 100);
            Checks.refuses(x, "cast off", Checks.STATE, () -> x.castOff(0, 100));
            Checks.refuses(x, "cast off by another percent", Checks.STATE, () -> x.castOff(0, 50));
            House y = Shop.withCopy("a");
            y.set(0, 0, 0);
            Checks.refuses(y, "a page is set", Checks.STATE, () -> y.castOff(0, 100));
        });
        Checks.holds(14, "IndexOutOfBoundsException first, then IllegalArgumentException", () -> {
            House x = Shop.withBook(2, 1, 10, 1, 2);
            Checks.refuses(x, "49 percent of no book", Checks.INDEX, () -> x.castOff(1, 49));
            Checks.refuses(x, "49 percent of no copy", Checks.ARGUMENT, () -> x.castOff(0, 49));
            Checks.refuses(x, "151 percent of no copy", Checks.ARGUMENT, () -> x.castOff(0, 151));
            Checks.copy(x, 0, "a");
            x.castOff(0, 100);
            Checks.refuses(x, "151 percent when it is cast off", Checks.ARGUMENT, () -> x.castOff(0, 151));
        });
        Checks.holds(14, "a call that throws an exception changes nothing", () -> {
            House x = Shop.withBook(2, 1, 10, 1, 2);
            Checks.refuses(x, "no copy", Checks.STATE, () -> x.castOff(0, 100));
            Checks.due("copy can come", 2, Checks.copy(x, 0, "a b"));
            Checks.refuses(x, "151 percent", Checks.ARGUMENT, () -> x.castOff(0, 151));
            Checks.due("more copy can come", 4, Checks.copy(x, 0, "c d"));
            Checks.due("cast off by the percent that was taken", 4, x.castOff(0, 50));
        });
        Checks.holds(14, "p times as many units as a page holds, or more", () -> {
            int[][] byPercent = {{50, 8}, {60, 9}, {70, 11}, {80, 12}, {100, 15}, {150, 23}};
            for (int[] both : byPercent) {
                House x = withPagesOfWords(10, 1, 40);
                Checks.due("words of two units by " + both[0], both[1], x.castOff(0, both[0]));
            }
        });
        Checks.holds(14, "the measure times its lines times the percent by 100, rounded down", () -> {
            int[][] byPercent = {{59, 8}, {69, 9}, {79, 11}, {89, 12}, {99, 14}, {149, 21}};
            for (int[] both : byPercent) {
                House x = withPagesOfWords(10, 1, 40);
                Checks.due("words of two units by " + both[0], both[1], x.castOff(0, both[0]));
            }
            Checks.due("13 units by 77 are 10", 15, withPagesOfWords(13, 1, 40).castOff(0, 77));
            Checks.due("two lines of 11 units by 50 are 11", 17, withPagesOfWords(11, 2, 60).castOff(0, 50));
            Checks.due("three lines of 13 units by 99 are 38", 57, withPagesOfWords(13, 3, 60).castOff(0, 99));
            Checks.due("six lines of 24 units by 150 are 216", 60, withPagesOfWords(24, 6, 60).castOff(0, 150));
        });
        Checks.holds(14, "at the end of the copy if there is none", () -> {
            Checks.due("15 units of 14", 7, withPagesOfWords(10, 1, 7).castOff(0, 50));
            Checks.due("15 units of 16, with no word behind", 8, withPagesOfWords(10, 1, 8).castOff(0, 50));
            Checks.due("15 units of 16, with one", 8, withPagesOfWords(10, 1, 9).castOff(0, 50));
            Checks.due("no page behind the first one", 1, withPagesOfWords(10, 1, 1).castOff(0, 150));
        });
        Checks.holds(14, "that of the last page to the end of the copy", EdgesOfBooksAndPagesTests::parts);
        Checks.holds(14, "as many units as letters, as it was told, and one more", () -> {
            House x = Shop.withCopy("abcdefgh a abcdefgh a");
            Checks.due("9, 11, 20 units", 3, x.castOff(0, 60));
            House y = new House();
            Checks.spelling(y, "d dddd");
            y.book(2, 1, 10, 1, 2);
            Checks.copy(y, 0, "dddd d dddd d");
            Checks.due("5, 7, 12 units", 4, y.castOff(0, 50));
            House z = new House();
            Checks.spelling(z, "d dddd");
            z.book(2, 1, 10, 1, 2);
            Checks.copy(z, 0, "dddd dddd dddd d");
            Checks.due("5, 10, 15 units", 3, z.castOff(0, 50));
        });
    }

    private static House withPagesOfWords(int measure, int lines, int words) {
        House x = Shop.withBook(2, 1, measure, lines, 2);
        Shop.copyMany(x, 0, 'a', words);
        return x;
    }

    /** Five units a page: the parts begin with the words 0, 3, 5, and 8, and the last one has all that is left. */
    private static void parts() {
        House x = withPagesOfWords(10, 1, 12);
        Checks.due("the last part", 8, x.castOff(0, 50));
        int[] ends = {3, 5, 8, 12};
        int[] words = {3, 2, 3, 4};
        for (int page = 3; page >= 0; page--) {
            x.set(0, page, 0);
            Checks.due("words of page " + page, words[page], x.page(0, page, 2));
            Checks.due("through of page " + page, ends[page], x.page(0, page, 3));
            Checks.due("crowded, page " + page, 0, x.page(0, page, 4));
        }
    }

    // ---- promise 15

    private static void set() {
        Checks.holds(15, "no such book, page or hand", () -> {
            Checks.refusesBeyond(0, 0, Checks.INDEX, () -> Shop.withCopy("a"), (x, book) -> x.set(book, 0, 0));
            Checks.refusesBeyond(0, 3, Checks.INDEX, () -> Shop.withCopy("a"), (x, page) -> x.set(0, page, 0));
            Checks.refusesBeyond(0, 0, Checks.INDEX, () -> Shop.withCopy("a"), (x, hand) -> x.set(0, 0, hand));
            House x = Shop.withCopy("a");
            x.hand(0, 0, 0);
            x.hand(0, 0, 0);
            x.hand(0, 0, 0);
            Checks.refuses(x, "hand 4", Checks.INDEX, () -> x.set(0, 0, 4));
            Checks.due("hand 3", 1, x.set(0, 0, 3));
            Checks.due("the hand that set it", 3, x.page(0, 0, 1));
        });
        Checks.holds(15, "the book has no copy", () -> {
            House x = Shop.withBook(2, 1, 10, 1, 2);
            Checks.refuses(x, "no copy", Checks.STATE, () -> x.set(0, 0, 0));
            Checks.copy(x, 0, "a");
            Checks.due("copy", 1, x.set(0, 0, 0));
        });
        Checks.holds(15, "the page is set", () -> {
            House x = new House();
            x.hand(0, 0, 2);
            x.book(2, 1, 10, 1, 2);
            Checks.copy(x, 0, "a a/b b");
            x.set(0, 0, 0);
            Checks.refuses(x, "set again", Checks.STATE, () -> x.set(0, 0, 0));
            x.set(0, 1, 0);
            Checks.due("the chance behind one that was refused is the second one", 1, x.page(0, 1, 2));
        });
        Checks.holds(15, "the word behind those through which the page ahead went", () -> {
            House x = new House();
            x.hand(0, 0, 1);
            x.book(2, 1, 10, 1, 2);
            Checks.copy(x, 0, "ab cd ab/ef/gh");
            x.set(0, 0, 0);
            Checks.due("the first word, and the one behind its twin", 2, x.page(0, 0, 2));
            Checks.due("through", 4, x.page(0, 0, 3));
            x.set(0, 1, 0);
            Checks.due("the next page begins behind both", 4, x.line(0, 1, 0, 1));
            Checks.due("through of the next page", 5, x.page(0, 1, 3));
        });
        Checks.holds(15, "its part does not begin yet", () -> {
            House x = Shop.withCopy("a/b");
            for (int page = 1; page < 4; page++) {
                int its = page;
                Checks.refuses(x, "page " + page, Checks.STATE, () -> x.set(0, its, 0));
            }
            x.set(0, 0, 0);
            Checks.refuses(x, "page 2", Checks.STATE, () -> x.set(0, 2, 0));
            Checks.due("page 1", 1, x.set(0, 1, 0));
            Checks.due("page 2, whose part is empty", 0, x.set(0, 2, 0));
            Checks.due("page 3, whose part is empty", 0, x.set(0, 3, 0));
            House y = Shop.withCopy("a/b");
            y.castOff(0, 100);
            Checks.due("page 3 of a book that is cast off", 0, y.set(0, 3, 0));
        });
        Checks.holds(15, "IndexOutOfBoundsException is named first", () -> {
            House x = Shop.withBook(2, 1, 10, 1, 2);
            Checks.refuses(x, "no page, without copy", Checks.INDEX, () -> x.set(0, 4, 0));
            Checks.refuses(x, "no hand, without copy", Checks.INDEX, () -> x.set(0, 0, 1));
            Checks.copy(x, 0, "a");
            x.set(0, 0, 0);
            Checks.refuses(x, "no hand for a page that is set", Checks.INDEX, () -> x.set(0, 0, -1));
            Checks.refuses(x, "no hand for a page that can't be set", Checks.INDEX, () -> x.set(0, 2, 1));
        });
        Checks.holds(15, "Returns how many places of it are empty", () -> {
            House x = Shop.withCopy("abc/abc/abc");
            Checks.due("all", 3, x.set(0, 0, 0));
            Checks.castAll(x, "ab", 1);
            Checks.due("one", 1, x.set(0, 1, 0));
            Checks.castAll(x, "abc", 1);
            Checks.due("none", 0, x.set(0, 2, 0));
            Checks.due("a page without places", 0, x.set(0, 3, 0));
        });
    }

    /** A page of one line, set from the copy by a hand that likes this. */
    private static House line(int measure, int likes, String copy, String... spellings) {
        House x = new House();
        for (String pair : spellings) {
            Checks.spelling(x, pair);
        }
        x.hand(likes, 0, 0);
        x.book(2, 1, measure, 1, 2);
        Checks.copy(x, 0, copy);
        x.set(0, 0, 0);
        return x;
    }

    private static void dueLine(String what, House x, int words, int missing, int cut, int longOnes) {
        int[] due = {words, -2, missing, cut, longOnes};
        for (int told = 0; told < due.length; told++) {
            if (told != 1) {
                Checks.due(what + ", line what " + told, due[told], x.line(0, 0, 0, told));
            }
        }
    }

    private static void lines() {
        Checks.holds(15, "are at most the measure", () -> {
            for (int measure = 10; measure <= 24; measure++) {
                String more = " c".repeat((measure - 1) / 2);
                int words = 1 + (measure - 1) / 2;
                String first = measure % 2 == 0 ? "ab" : "a";
                dueLine("just " + measure, line(measure, 0, first + more + " d"), words, 0, 1, 0);
                dueLine("just " + measure + " at the end", line(measure, 0, first + more), words, 0, 0, 0);
                dueLine("one more than " + measure, line(measure, 0, first + "b" + more), words - 1, 0, 1, 0);
            }
        });
        Checks.holds(15, "in the form that the hand likes, or, if it does not fit so, in the short one", () -> {
            dueLine("the long one fits", line(10, 1, "abcdef do", "do doe"), 2, 0, 0, 1);
            dueLine("only the short one fits", line(10, 1, "abcdefg do", "do doe"), 2, 0, 0, 0);
            dueLine("none fits", line(10, 1, "abcdefgh do", "do doe"), 1, 2, 1, 0);
            dueLine("the short one is liked", line(10, 0, "abcdef doe", "do doe"), 2, 1, 0, 0);
            dueLine("a word of no spelling", line(10, 63, "abcdefg doe", "do dooe"), 1, 3, 1, 0);
        });
        Checks.holds(15, "A line ends behind a word that ends a line, when the page went through its part, or ahead of "
                + "a word that does not fit", () -> {
            dueLine("behind a stroke", line(10, 0, "ab/cd"), 1, 8, 0, 0);
            dueLine("behind a stroke, where no word fits", line(10, 0, "abcdefgh/cd"), 1, 2, 0, 0);
            dueLine("at the end", line(10, 0, "ab cd"), 2, 5, 0, 0);
            dueLine("ahead of a word", line(10, 0, "abcdefgh cd"), 1, 2, 1, 0);
            House x = Shop.withCopy("abcd efgh ijkl");
            x.castOff(0, 50);
            x.set(0, 0, 0);
            dueLine("at the end of a part, where one more fits", x, 1, 6, 0, 0);
        });
        Checks.holds(15, "The page ends with its last line, or when it went through its part", () -> {
            for (int lines = 1; lines <= 6; lines++) {
                House x = Shop.withBook(2, 1, 10, lines, 2);
                Checks.copy(x, 0, "a/b/c/d/e/f/g/h");
                x.set(0, 0, 0);
                Checks.due("lines", lines, x.page(0, 0, 7));
                Checks.due("through", lines, x.page(0, 0, 3));
                Checks.due("no line behind the last one", Leadchapel.NONE, x.line(0, 0, lines, 0));
                x.set(0, 1, 0);
                Checks.due("lines of the next page", Math.min(lines, 8 - lines), x.page(0, 1, 7));
            }
        });
    }

    private static void dueSkip(String what, String copy, int percent, int words, int through, int firstLine) {
        House x = new House();
        Checks.spelling(x, "do doe");
        x.hand(0, 0, 1);
        x.book(2, 1, 10, 2, 2);
        Checks.copy(x, 0, copy);
        if (percent > 0) {
            x.castOff(0, percent);
        }
        x.set(0, 0, 0);
        Checks.due(what + ", words", words, x.page(0, 0, 2));
        Checks.due(what + ", through", through, x.page(0, 0, 3));
        Checks.due(what + ", words of the first line", firstLine, x.line(0, 0, 0, 0));
    }

    private static void skips() {
        Checks.holds(15, "one of the next 4 words of the part is the same", () -> {
            dueSkip("the next word", "a a b", 0, 2, 3, 2);
            dueSkip("the fourth one", "a b c d a e", 0, 2, 6, 2);
            dueSkip("the fifth one", "a b c d e a", 0, 6, 6, 5);
            dueSkip("the last one of the copy", "a b a", 0, 1, 3, 1);
            dueSkip("the last one of the part", "a b c d a b", 50, 1, 5, 1);
            dueSkip("the last one of a part, the fourth one", "ab c d e ab c", 50, 1, 5, 1);
            dueSkip("the first one of the next part", "abc c d e abc c", 50, 4, 4, 4);
            dueSkip("one of the next part, the fourth one", "ab b c d a b", 50, 5, 5, 5);
        });
        Checks.holds(15, "as they were told", () -> {
            dueSkip("another form", "do a doe b", 0, 4, 4, 4);
            dueSkip("the short form of it", "doe a do b", 0, 4, 4, 4);
            dueSkip("the same form", "doe a doe b", 0, 2, 4, 2);
            dueSkip("the same short form", "do a do b", 0, 2, 4, 2);
            dueSkip("the same form behind the other one", "do doe do b", 0, 2, 4, 2);
        });
        Checks.holds(15, "goes on behind the first such one", () -> {
            dueSkip("the first of three", "a b a a c", 0, 3, 5, 3);
            dueSkip("one behind the other", "a a a a c", 0, 3, 5, 3);
        });
        Checks.holds(15, "whether a line ends is told by the word that is set", () -> {
            dueSkip("the other one ends a line", "a b a/c", 0, 2, 4, 2);
            dueSkip("the one that is set ends a line", "a/b a c", 0, 2, 4, 1);
        });
    }

    private static House crowd(int likes, String copy, int percent) {
        House x = new House();
        Checks.spelling(x, "do doe");
        x.hand(likes, 0, 0);
        x.book(2, 1, 10, 1, 2);
        Checks.copy(x, 0, copy);
        x.castOff(0, percent);
        x.set(0, 0, 0);
        return x;
    }

    private static void dueCrowded(String what, House x, int words, int through, int crowded, int leftOut) {
        int[] due = {words, through, crowded, leftOut};
        for (int told = 0; told < due.length; told++) {
            Checks.due(what + ", page what " + (told + 2), due[told], x.page(0, 0, told + 2));
        }
    }

    private static void crowded() {
        Checks.holds(15, "would not go through its part, it is crowded", () -> {
            dueCrowded("it goes through", crowd(0, "abcd efghi jkl mn", 110), 2, 2, 0, 0);
            dueCrowded("it does not, by a unit", crowd(0, "abcd efghij jkl mn", 110), 1, 1, 1, 1);
            dueCrowded("by a stroke", crowd(0, "ab/cd/ef/gh/i", 100), 1, 1, 1, 3);
            dueCrowded("an empty part", crowd(0, "ab", 150), 1, 1, 0, 0);
        });
        Checks.holds(15, "with the short form of all spellings", () -> {
            House x = crowd(1, "do abcdefg ab", 110);
            dueCrowded("nothing is left out then", x, 2, 2, 1, 0);
            dueLine("the short form", x, 2, 0, 0, 0);
            House y = crowd(1, "do abcdef ab", 100);
            dueCrowded("it goes through with the long form", y, 2, 2, 0, 0);
            dueLine("the long form", y, 2, 0, 0, 1);
        });
        Checks.holds(15, "and chances counted as they were ahead of it", () -> {
            House x = new House();
            x.hand(0, 0, 3);
            x.book(2, 1, 10, 1, 2);
            Checks.copy(x, 0, "a a/b c c d e e f");
            x.castOff(0, 60);
            x.set(0, 0, 0);
            dueCrowded("with a chance", x, 2, 2, 1, 1);
            x.set(0, 1, 0);
            Checks.due("the second chance", 3, x.page(0, 1, 2));
            x.set(0, 2, 0);
            Checks.due("the third chance, which skips", 2, x.page(0, 2, 2));
        });
        Checks.holds(15, "as they were ahead of it, not as at first", () -> {
            House x = new House();
            x.hand(0, 0, 3);
            x.book(2, 1, 10, 1, 2);
            Checks.copy(x, 0, "a a cdefg b b/cdefg i i j k");
            x.castOff(0, 100);
            x.set(0, 0, 0);
            dueCrowded("the first chance", x, 3, 3, 0, 0);
            x.set(0, 1, 0);
            Checks.due("the second chance, crowded", 1, x.page(0, 1, 4));
            Checks.due("words of the crowded page", 2, x.page(0, 1, 2));
            x.set(0, 2, 0);
            Checks.due("the third chance, which skips", 3, x.page(0, 2, 2));
            Checks.due("through all", 10, x.page(0, 2, 3));
        });
        Checks.holds(15, "If the book is cast off", () -> {
            House x = Shop.withCopy("ab/cd/ef/gh/ij/kl");
            Shop.setAll(x, 0);
            for (int page = 0; page < 4; page++) {
                Checks.due("crowded, page " + page, 0, x.page(0, page, 4));
                Checks.due("left out, page " + page, 0, x.page(0, page, 5));
            }
            Checks.due("the last page goes as far as it does", 4, x.page(0, 3, 3));
        });
        Checks.holds(15, "that of the last page, of 16, is crowded by all that is left", () -> {
            House x = Shop.withBook(2, 4, 10, 1, 2);
            Shop.copyMany(x, 0, 'a', 60);
            Checks.due("the part of page 15", 38, x.castOff(0, 50));
            x.set(0, 15, 0);
            Checks.due("the words 38 and 39, which ends a line", 2, x.page(0, 15, 2));
            Checks.due("crowded", 1, x.page(0, 15, 4));
            Checks.due("left out", 20, x.page(0, 15, 5));
        });
    }

    private static final String GROWS = "abcde abcdefgh";

    private static void fillingOut() {
        Checks.holds(17, "until each blank has 3", () -> {
            Checks.dueText("8 units for two blanks", "ab   c   d", firstLine(14, "ab c d efghijkl"));
            dueLine("4 stay empty", line(14, 0, "ab c d efghijkl"), 3, 4, 1, 0);
            Checks.dueText("4 units for two blanks", "ab   c   d", firstLine(10, "ab c d efghijkl"));
            dueLine("none stays empty", line(10, 0, "ab c d efghijkl"), 3, 0, 1, 0);
        });
        Checks.holds(17, "one each, from the left to the right, again and again", () -> {
            Checks.dueText("1 unit for two blanks", "abc  ef gh", firstLine(10, "abc ef gh i"));
            Checks.dueText("2 units for two blanks", "abc  e  gh", firstLine(10, "abc e gh ij"));
            Checks.dueText("3 units for two blanks", "abc   e  g", firstLine(10, "abc e g hij"));
        });
        Checks.holds(17, "each one if there are as many units left", () -> {
            dueLine("3 for 3", line(12, 0, "x abcde bcdefghi", GROWS), 2, 0, 1, 1);
            dueLine("3 for 3, of a word that was told long", line(12, 0, "x abcdefgh bcdefghi", GROWS), 2, 0, 1, 1);
            dueLine("3 for 2, of a word that was told long", line(12, 0, "xy abcdefgh bcdefghi", GROWS), 2, 2, 1, 0);
            dueLine("3 for 2", line(12, 0, "xy abcde bcdefghi", GROWS), 2, 2, 1, 0);
            dueLine("3 of the first one, of 3 for both", line(12, 0, "abcde b cdefghij", GROWS, "b bc"), 2, 0, 1, 1);
            dueLine("1 of the first one, of 3 for both", line(12, 0, "b abcde cdefghij", GROWS, "b bc"), 2, 2, 1, 2);
            dueLine("1 of the second one, of 2", line(12, 0, "abcde cc xxxxxxxx", GROWS, "cc ccc"), 2, 1, 1, 2);
            dueLine("both", line(14, 0, "abcde cc xxxxxxxx", GROWS, "cc ccc"), 2, 0, 1, 3);
            dueLine("a word alone has no blank", line(10, 0, "abcde xxxxxxxx", GROWS), 1, 2, 1, 1);
            dueLine("no long one again", line(12, 2, "b abcdefg hijklmno", GROWS, "b bc"), 2, 0, 1, 2);
            dueLine("one that is long, alone", line(10, 1, "do abcdefgh", "do doe"), 1, 7, 1, 1);
            dueLine("a word of no spelling", line(10, 0, "do abcdefgh", "ab abc"), 1, 8, 1, 0);
        });
        Checks.holds(17, "but not on a crowded page", () -> {
            House x = crowd(0, "a do xxxxxxxx", 150);
            dueCrowded("crowded", x, 2, 2, 1, 1);
            dueLine("blanks alone", x, 2, 4, 1, 0);
        });
        Checks.holds(17, "or in another line, stays empty at its end", () -> {
            dueLine("behind a stroke", line(12, 0, "x abcde/b", GROWS), 2, 5, 0, 0);
            dueLine("at the end", line(12, 0, "x abcde", GROWS), 2, 5, 0, 0);
            Checks.dueText("blanks of one unit", "x abcde", firstLine(12, "x abcde/b"));
        });
    }

    /** The first line of the copy, as it was wanted. */
    private static String firstLine(int measure, String copy) {
        House x = Shop.withBook(2, 1, measure, 1, 2);
        Checks.copy(x, 0, copy);
        Shop.setAll(x, 0);
        for (int forme = 0; forme < 2; forme++) {
            x.lock(0, forme, forme);
            Shop.printOut(x, 0, forme);
        }
        x.bind(0);
        x.cancel(0, 0, 0);
        return Checks.printed(x, 0, 0, 0, 0);
    }

    // ---- promises 16 to 18

    private static void page() {
        Checks.holds(16, "no such book or page", () -> {
            for (int format = 2; format <= 8; format *= 2) {
                int its = format;
                Checks.takes(0, 2 * format - 1, () -> Shop.withBook(its, 1, 10, 1, 2), (x, page) -> x.page(0, page, 8));
                Checks.refusesBeyond(0, 2 * format - 1, Checks.INDEX, () -> Shop.withBook(its, 1, 10, 1, 2),
                        (x, page) -> x.page(0, page, 0));
            }
            Checks.refusesBeyond(0, 0, Checks.INDEX, () -> Shop.withCopy("a"), (x, book) -> x.page(book, 0, 0));
        });
        Checks.holds(16, "what: 0 to 8", () -> {
            Checks.takes(0, 8, () -> Shop.withCopy("a"), (x, what) -> x.page(0, 0, what));
            Checks.refusesBeyond(0, 8, Checks.ARGUMENT, () -> Shop.withCopy("a"), (x, what) -> x.page(0, 0, what));
        });
        Checks.holds(16, "IndexOutOfBoundsException is named first", () -> {
            House x = Shop.withCopy("a");
            Checks.refuses(x, "page 4, what 9", Checks.INDEX, () -> x.page(0, 4, 9));
            Checks.refuses(x, "book 1, what -1", Checks.INDEX, () -> x.page(1, 0, -1));
        });
        Checks.holds(16, "that are 0 or 1 modulo 4", () -> {
            House x = Shop.withBook(8, 1, 10, 1, 2);
            x.book(4, 2, 10, 1, 2);
            x.book(2, 4, 10, 1, 2);
            String[] formes = {"0110011001100110", "0110011023322332", "0110233245546776"};
            for (int book = 0; book < 3; book++) {
                for (int page = 0; page < 16; page++) {
                    Checks.due("forme of page " + page, formes[book].charAt(page) - '0', x.page(book, page, 0));
                }
            }
        });
        Checks.holds(16, "1 to 7 NONE as long as it is not set", () -> {
            House x = Shop.withCopy("a");
            for (int what = 1; what <= 8; what++) {
                Checks.due("ahead of set, what " + what, Leadchapel.NONE, x.page(0, 0, what));
            }
            x.set(0, 0, 0);
            int[] due = {0, 0, 1, 1, 0, 0, 1, 1, Leadchapel.NONE};
            for (int what = 0; what <= 8; what++) {
                Checks.due("set, what " + what, due[what], x.page(0, 0, what));
            }
            x.set(0, 1, 0);
            int[] empty = {1, 0, 0, 1, 0, 0, 0, 0, Leadchapel.NONE};
            for (int what = 0; what <= 8; what++) {
                Checks.due("set, without words, what " + what, empty[what], x.page(0, 1, what));
            }
        });
        Checks.holds(16, "its running title, NONE as long as its forme is OPEN", EdgesOfBooksAndPagesTests::titles);
    }

    private static void titles() {
        House x = Shop.withBook(8, 1, 10, 1, 2);
        Checks.copy(x, 0, "a");
        Shop.setPages(x, 0, 0, 16);
        for (int page = 0; page < 16; page++) {
            Checks.due("OPEN, page " + page, Leadchapel.NONE, x.page(0, page, 8));
        }
        x.lock(0, 1, 5);
        for (int page = 0; page < 16; page++) {
            boolean isInner = x.page(0, page, 0) == 1;
            Checks.due("LOCKED, page " + page, isInner ? 40 + page / 2 : Leadchapel.NONE, x.page(0, page, 8));
        }
        x.lock(0, 0, 0);
        Shop.printOut(x, 0, 0);
        Checks.due("DONE, page 15", 7, x.page(0, 15, 8));
        x.putAway(0, 0, 0);
        Checks.due("GONE, page 15", 7, x.page(0, 15, 8));
        Checks.due("GONE, page 0", 0, x.page(0, 0, 8));
    }

    private static House withLines() {
        House x = Shop.withBook(2, 1, 10, 2, 2);
        Checks.copy(x, 0, "ab cd/ef/gh");
        x.set(0, 0, 0);
        return x;
    }

    private static void line() {
        Checks.holds(17, "no such book or page, or line is below 0", () -> {
            Checks.refusesBeyond(0, 0, Checks.INDEX, () -> withLines(), (x, book) -> x.line(book, 0, 0, 0));
            Checks.refusesBeyond(0, 3, Checks.INDEX, () -> withLines(), (x, page) -> x.line(0, page, 0, 0));
            House x = withLines();
            Checks.refuses(x, "line -1", Checks.INDEX, () -> x.line(0, 0, -1, 0));
            Checks.refuses(x, "the least line", Checks.INDEX, () -> x.line(0, 0, Integer.MIN_VALUE, 0));
            Checks.refuses(x, "line -1 of a page that is not set", Checks.INDEX, () -> x.line(0, 1, -1, 0));
        });
        Checks.holds(17, "what: 0 to 4", () -> {
            Checks.takes(0, 4, () -> withLines(), (x, what) -> x.line(0, 0, 0, what));
            Checks.refusesBeyond(0, 4, Checks.ARGUMENT, () -> withLines(), (x, what) -> x.line(0, 0, 0, what));
            Checks.refusesBeyond(0, 4, Checks.ARGUMENT, () -> withLines(), (x, what) -> x.line(0, 1, 9, what));
        });
        Checks.holds(17, "IndexOutOfBoundsException is named first", () -> {
            House x = withLines();
            Checks.refuses(x, "line -1, what 5", Checks.INDEX, () -> x.line(0, 0, -1, 5));
            Checks.refuses(x, "page 4, what -1", Checks.INDEX, () -> x.line(0, 4, 0, -1));
            Checks.refuses(x, "book -1, what -1", Checks.INDEX, () -> x.line(-1, 0, 0, -1));
        });
        Checks.holds(17, "NONE if the page is not set, or has not so many lines with words", () -> {
            House x = withLines();
            for (int what = 0; what <= 4; what++) {
                Checks.due("line 2 of 2", Leadchapel.NONE, x.line(0, 0, 2, what));
                Checks.due("the greatest line", Leadchapel.NONE, x.line(0, 0, Integer.MAX_VALUE, what));
                Checks.due("a page that is not set", Leadchapel.NONE, x.line(0, 1, 0, what));
            }
            Checks.due("the last line", 1, x.line(0, 0, 1, 0));
            x.set(0, 1, 0);
            Checks.due("one line of two", 1, x.line(0, 1, 0, 0));
            Checks.due("the second one has no words", Leadchapel.NONE, x.line(0, 1, 1, 0));
            x.set(0, 2, 0);
            Checks.due("a page without words", Leadchapel.NONE, x.line(0, 2, 0, 2));
        });
        Checks.holds(17, "1 the last of these", () -> {
            House x = withLines();
            x.set(0, 1, 0);
            Checks.due("the last word of line 0", 1, x.line(0, 0, 0, 1));
            Checks.due("the last word of line 1", 2, x.line(0, 0, 1, 1));
            Checks.due("the last word of the copy", 3, x.line(0, 1, 0, 1));
        });
        Checks.holds(17, "a set of spellings: those with a word in the long form in it", () -> {
            House x = line(24, 0b100010, "ax bx cx dx ex fx", "a ax", "b bx", "c cx", "d dx", "e ex", "f fx");
            Checks.due("the spellings 1 and 5", 0b100010, x.line(0, 0, 0, 4));
            Checks.due("all six", 63, line(24, 63, "a b c d e f", "a ax", "b bx", "c cx", "d dx", "e ex", "f fx")
                    .line(0, 0, 0, 4));
            Checks.due("twice the same", 1, line(24, 1, "a ax", "a ax").line(0, 0, 0, 4));
        });
    }

    private static void place() {
        Checks.holds(18, "no such book or page, or place is below 0", () -> {
            Checks.refusesBeyond(0, 0, Checks.INDEX, () -> withLines(), (x, book) -> x.place(book, 0, 0, 0));
            Checks.refusesBeyond(0, 3, Checks.INDEX, () -> withLines(), (x, page) -> x.place(0, page, 0, 0));
            House x = withLines();
            Checks.refuses(x, "place -1", Checks.INDEX, () -> x.place(0, 0, -1, 0));
            Checks.refuses(x, "the least place", Checks.INDEX, () -> x.place(0, 0, Integer.MIN_VALUE, 0));
            Checks.refuses(x, "place -1 of a page that is not set", Checks.INDEX, () -> x.place(0, 1, -1, 0));
        });
        Checks.holds(18, "what: 0 to 2", () -> {
            Checks.takes(0, 2, () -> withLines(), (x, what) -> x.place(0, 0, 0, what));
            Checks.refusesBeyond(0, 2, Checks.ARGUMENT, () -> withLines(), (x, what) -> x.place(0, 0, 0, what));
            Checks.refusesBeyond(0, 2, Checks.ARGUMENT, () -> withLines(), (x, what) -> x.place(0, 1, 99, what));
        });
        Checks.holds(18, "IndexOutOfBoundsException is named first", () -> {
            House x = withLines();
            Checks.refuses(x, "place -1, what 3", Checks.INDEX, () -> x.place(0, 0, -1, 3));
            Checks.refuses(x, "page 4, what -1", Checks.INDEX, () -> x.place(0, 4, 0, -1));
            Checks.refuses(x, "book 1, what 3", Checks.INDEX, () -> x.place(1, 0, 0, 3));
        });
        Checks.holds(18, "NONE if the page is not set, or has not so many places", () -> {
            House x = withLines();
            for (int what = 0; what <= 2; what++) {
                Checks.due("place 6 of 6", Leadchapel.NONE, x.place(0, 0, 6, what));
                Checks.due("the greatest place", Leadchapel.NONE, x.place(0, 0, Integer.MAX_VALUE, what));
                Checks.due("a page that is not set", Leadchapel.NONE, x.place(0, 1, 0, what));
            }
            Checks.due("the last place", 5, x.place(0, 0, 5, 1));
            x.set(0, 1, 0);
            x.set(0, 2, 0);
            Checks.due("a page without places", Leadchapel.NONE, x.place(0, 2, 0, 1));
        });
        Checks.holds(18, "as many places as lines of the measure have units", () -> {
            House x = Shop.withBook(2, 1, 24, 6, 2);
            for (int text = 0; text < 6; text++) {
                Checks.copy(x, 0, "aaaaaaaa aaaaaaaa zzzzzz");
            }
            Checks.due("all are empty", 132, x.set(0, 0, 0));
            Checks.due("the last one", 25, x.place(0, 0, 131, 1));
            Checks.due("none behind it", Leadchapel.NONE, x.place(0, 0, 132, 1));
        });
    }

    private static void filling() {
        Checks.holds(18, "If that box is empty: for n, u, b, q, d and p the topmost piece of the box of u, n, q, b, p "
                + "and d", () -> {
            for (char wanted = 'a'; wanted <= 'z'; wanted++) {
                for (char other = 'a'; other <= 'z'; other++) {
                    dueFilled(wanted, other);
                }
            }
        });
        Checks.holds(18, "the topmost piece of the box of that sort is taken", () -> {
            House x = Shop.withCopy("nnn nn");
            x.cast(Checks.sort('u'), 2);
            x.cast(Checks.sort('n'), 2);
            Checks.due("one place is empty", 1, x.set(0, 0, 0));
            int[][] due = {{3, 0}, {2, 0}, {1, 1}, {0, 1}, {Leadchapel.NONE, 0}};
            for (int place = 0; place < 5; place++) {
                Checks.due("piece at " + place, due[place][0], x.place(0, 0, place, 0));
                Checks.due("turned at " + place, due[place][1], x.place(0, 0, place, 2));
                Checks.due("wanted at " + place, Checks.sort('n'), x.place(0, 0, place, 1));
            }
        });
        Checks.holds(18, "one place, for fi or fl, if that box is not empty then", () -> {
            duePlaces("fi fi fi fl fl", 26, 26, 5, 8, 27, 5, 11);
            duePlaces("fl fl fi fi fi", 27, 5, 11, 26, 26, 5, 8);
            duePlaces("ffi ffl", 5, 26, 5, 27);
            duePlaces("f if i", 5, 8, 5, 8);
            duePlaces("if lf f l", 8, 5, 11, 5, 5, 11);
            duePlaces("fifi fifl", 26, 26, 5, 8, 27);
            duePlaces("fj fk fm ff", 5, 9, 5, 10, 5, 12, 5, 5);
            duePlaces("ei el gi", 4, 8, 4, 11, 6, 8);
            duePlaces("ibcdeghf lbcdeghf", 8, 1, 2, 3, 4, 6, 7, 5, 11, 1, 2, 3, 4, 6, 7, 5);
            duePlaces("abcdegfi abcdegfl", 0, 1, 2, 3, 4, 6, 26, 0, 1, 2, 3, 4, 6, 27);
        });
    }

    private static void dueFilled(char wanted, char other) {
        House x = Shop.withCopy(String.valueOf(wanted));
        x.cast(Checks.sort(other), 1);
        int turned = "nu un bq qb dp pd".contains("" + wanted + other) ? 1 : 0;
        int piece = wanted == other || turned == 1 ? 0 : Leadchapel.NONE;
        Checks.due("empty, " + wanted + " of " + other, piece == 0 ? 0 : 1, x.set(0, 0, 0));
        Checks.due("piece, " + wanted + " of " + other, piece, x.place(0, 0, 0, 0));
        Checks.due("turned, " + wanted + " of " + other, turned, x.place(0, 0, 0, 2));
    }

    /** With two pieces of fi, and one of fl, on a page of a line of 24 units. */
    private static void duePlaces(String copy, int... sorts) {
        House x = Shop.withBook(2, 1, 24, 1, 2);
        x.cast(26, 2);
        x.cast(27, 1);
        Checks.copy(x, 0, copy);
        x.set(0, 0, 0);
        Checks.due("places of " + copy, sorts.length, x.page(0, 0, 6));
        for (int place = 0; place < sorts.length; place++) {
            Checks.due("place " + place + " of " + copy, sorts[place], x.place(0, 0, place, 1));
        }
    }

    public static void main(String[] args) {
        book();
        copy();
        follow();
        castOff();
        set();
        lines();
        skips();
        crowded();
        fillingOut();
        page();
        line();
        place();
        filling();
        Checks.endOf(11, 18);
    }
}
