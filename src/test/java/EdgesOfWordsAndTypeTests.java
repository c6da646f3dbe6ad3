/** Each boundary case of promises 1 to 10, by the sentence that names it: a new object, words, type, hands. */
public final class EdgesOfWordsAndTypeTests {
    private static final String FULL = "a b c d e f g h i j k l m n o p q r s t";
    private static final String ALLOWED = "abcdefghijklmnopqrstuvwxyz /";

    private EdgesOfWordsAndTypeTests() {
    }

    // ---- promise 1

    private static void newObject() {
        Checks.holds(1, "without type", () -> {
            House x = new House();
            Checks.refuses(x, "piece 0", Checks.INDEX, () -> x.piece(0, 0));
            for (int sort = 0; sort < 28; sort++) {
                Checks.due("box " + sort, Leadchapel.NONE, x.box(sort, 0));
            }
        });
        Checks.holds(1, "without hands", () -> {
            House x = new House();
            Checks.refuses(x, "hand 0", Checks.INDEX, () -> x.account(0, 0));
            Checks.due("the first hand", 0, x.hand(0, 0, 0));
        });
        Checks.holds(1, "without books", () -> {
            House x = new House();
            Checks.refuses(x, "book 0", Checks.INDEX, () -> x.page(0, 0, 0));
            Checks.due("the first book", 0, x.book(2, 1, 10, 1, 2));
        });
        Checks.holds(1, "at the hour 0", () -> Checks.due("hour", 0, new House().hour()));
        Checks.holds(1, "the tape is empty", () -> {
            Checks.due("fault", 0, new House().fault());
            Checks.due("wipe", 0, new House().wipe());
        });
        Checks.holds(1, "Creates a house", () -> {
            House x = Shop.withCopy("ab");
            x.cast(0, 1);
            x.pass(1);
            x.paper(1);
            x.type('a', 1);
            House y = new House();
            Checks.due("hour of another house", 0, y.hour());
            Checks.due("tape of another house", 0, y.wipe());
            Checks.due("type of another house", 1, y.cast(3, 1));
            Checks.refuses(y, "book of another house", Checks.INDEX, () -> y.page(0, 0, 0));
        });
        Checks.holds(1, "at most 512 calls", () -> {
            House x = new House();
            for (int call = 1; call < House.MOST_CALLS; call++) {
                Checks.due("call " + call, 0, x.pass(1));
            }
            Checks.due("the call 512", 511, x.hour());
        });
        Checks.holds(1, "NONE = -1, OPEN = 0, LOCKED = 1, ON = 2, DONE = 3, GONE = 4", () -> {
            int[] all = {Leadchapel.NONE, Leadchapel.OPEN, Leadchapel.LOCKED, Leadchapel.ON, Leadchapel.DONE,
                Leadchapel.GONE};
            for (int i = 0; i < all.length; i++) {
                Checks.due("constant " + i, i - 1, all[i]);
            }
        });
    }

    // ---- promise 2

    private static House withTape(String text) {
        House x = new House();
        Checks.type(x, text);
        return x;
    }

    private static void type() {
        long eight = Checks.packed("abcdefgh");
        Checks.holds(2, "n: 1 to 8", () -> {
            Checks.takes(1, 8, House::new, (x, n) -> Checks.due("type " + n, n, x.type(eight, n)));
            Checks.refusesBeyond(1, 8, Checks.ARGUMENT, House::new, (x, n) -> x.type(eight, n));
        });
        Checks.holds(2, "the first one in the lowest 8 bits, and so on", () -> {
            Checks.due("fault of a letter, and then a stroke", 2, typed(Checks.packed("a/"), 2).fault());
            Checks.due("fault of a stroke, and then a letter", 0, typed(Checks.packed("/a"), 2).fault());
            Checks.due("fault of two blanks at the end", 7, typed(Checks.packed("abcdef  "), 8).fault());
        });
        Checks.holds(2, "no letter a to z, blank or stroke", () -> {
            for (int sign = 0; sign < 256; sign++) {
                dueSign(sign, ALLOWED.indexOf(sign) >= 0);
            }
        });
        Checks.holds(2, "one of the n characters", EdgesOfWordsAndTypeTests::charactersBehindThem);
        Checks.holds(2, "would have more than 40", EdgesOfWordsAndTypeTests::fullTape);
        Checks.holds(2, "IllegalArgumentException is named first", () -> {
            House x = withTape(FULL + " ");
            Checks.refuses(x, "n 9 on a full tape", Checks.ARGUMENT, () -> x.type(eight, 9));
            Checks.refuses(x, "n 0 on a full tape", Checks.ARGUMENT, () -> x.type(eight, 0));
            Checks.refuses(x, "a dot on a full tape", Checks.ARGUMENT, () -> x.type('.', 1));
            Checks.due("the tape is as it was", 40, x.wipe());
        });
        Checks.holds(2, "a call that throws an exception changes nothing", () -> {
            House x = withTape("abc");
            Checks.refuses(x, "seven letters and a dot", Checks.ARGUMENT, () -> x.type(Checks.packed("abcdefg."), 8));
            Checks.due("the tape is as it was", 3, x.wipe());
        });
    }

    private static House typed(long characters, int n) {
        House x = new House();
        x.type(characters, n);
        return x;
    }

    private static void dueSign(int sign, boolean isAllowed) {
        for (int at = 0; at < 8; at++) {
            long others = Checks.packed("abcdefgh") & ~(255L << 8 * at);
            long characters = others | (long) sign << 8 * at;
            House x = new House();
            if (isAllowed) {
                Checks.due("the sign " + sign + " at " + at, 8, x.type(characters, 8));
            } else if (at % 7 == 0) {
                Checks.refuses(x, "the sign " + sign + " at " + at, Checks.ARGUMENT, () -> x.type(characters, 8));
            }
        }
    }

    private static void charactersBehindThem() {
        for (int n = 1; n < 8; n++) {
            int many = n;
            long letters = Checks.packed("zzzzzzzz".substring(0, n));
            long greatest = letters | -1L << 8 * n;
            long least = letters | Long.MIN_VALUE;
            Checks.due("ones behind " + n, n, new House().type(greatest, n));
            Checks.due("nothing behind " + n, n, new House().type(letters, n));
            Checks.due("the highest bit behind " + n, n, new House().type(least, n));
            House x = new House();
            Checks.refuses(x, "ones as the last", Checks.ARGUMENT, () -> x.type(greatest, many + 1));
            Checks.refuses(x, "nothing as the last", Checks.ARGUMENT, () -> x.type(letters, many + 1));
        }
        for (long all : new long[] {Long.MIN_VALUE, Long.MAX_VALUE, -1L, 0L}) {
            House x = new House();
            for (int n = 1; n <= 8; n++) {
                int many = n;
                Checks.refuses(x, "the long " + all, Checks.ARGUMENT, () -> x.type(all, many));
            }
        }
        Checks.due("the greatest long that is letters", 8, new House().type(0x7A7A7A7A7A7A7A7AL, 8));
        Checks.due("the least long that is characters", 8, new House().type(0x2020202020202020L, 8));
    }

    private static void fullTape() {
        for (int had = 32; had <= 40; had++) {
            for (int n = 1; n <= 8; n++) {
                House x = withTape((FULL + " ").substring(0, had));
                int more = n;
                if (had + n <= 40) {
                    Checks.due(n + " more than " + had, had + n, x.type(Checks.packed("abcdefgh"), n));
                } else {
                    Checks.refuses(x, n + " more than " + had, Checks.STATE,
                            () -> x.type(Checks.packed("abcdefgh"), more));
                    Checks.due("the tape is as it was", had, x.wipe());
                }
            }
        }
    }

    // ---- promises 3 and 4

    private static void wipe() {
        Checks.holds(3, "Empties the tape; returns how many characters it had", () -> {
            for (int had = 0; had <= 40; had++) {
                House x = withTape((FULL + " ").substring(0, had));
                Checks.due("wipe of " + had, had, x.wipe());
                Checks.due("wipe of nothing", 0, x.wipe());
                Checks.due("fault of nothing", 0, x.fault());
                Checks.due("a full tape again", 40, Checks.type(x, FULL + " "));
            }
        });
    }

    private static void dueFault(String text, int fault) {
        House x = withTape(text);
        Checks.due("fault of '" + text + "'", fault, x.fault());
        Checks.due("fault of '" + text + "' again", fault, x.fault());
        Checks.due("length of '" + text + "'", text.length(), x.wipe());
    }

    private static void fault() {
        Checks.holds(4, "words of 1 to 8 letters", () -> {
            dueFault("a", Leadchapel.NONE);
            dueFault("abcdefgh", Leadchapel.NONE);
            dueFault("abcdefghi", 8);
            dueFault("abcdefghij", 8);
            dueFault("a abcdefgh", Leadchapel.NONE);
            dueFault("a abcdefghi", 10);
            dueFault("abcdefgh/abcdefghi b", 17);
            dueFault("/", 0);
            dueFault(" ", 0);
            dueFault(" a", 0);
        });
        Checks.holds(4, "one blank or one stroke between each two", () -> {
            dueFault("a b", Leadchapel.NONE);
            dueFault("a/b", Leadchapel.NONE);
            dueFault("a  b", 2);
            dueFault("a//b", 2);
            dueFault("a /b", 2);
            dueFault("a/ b", 2);
            dueFault("ab cd  ", 6);
        });
        Checks.holds(4, "the first character with which it cannot be the beginning", () -> {
            dueFault("a  b  c", 2);
            dueFault("  a", 0);
            dueFault("abcdefghi  ", 8);
            dueFault("a  abcdefghi", 2);
        });
        Checks.holds(4, "or its length, if it is only too short", () -> {
            dueFault("", 0);
            dueFault("a ", 2);
            dueFault("a/", 2);
            dueFault("abcdefgh ", 9);
            dueFault(FULL + " ", 40);
            dueFault(FULL + "/", 40);
        });
        Checks.holds(4, "NONE, if it is a text", () -> {
            dueFault(FULL, Leadchapel.NONE);
            dueFault("abcdefgh abcdefgh/abcdefgh abcdefgh/abcd", Leadchapel.NONE);
            dueFault("abcdefgh abcdefgh abcdefgh abc abcdefghi", 39);
            dueFault("abcdefgh abcdefgh abcdefgh abc abcdefg  ", 39);
        });
    }

    // ---- promise 5

    private static void refusesSpelling(House x, String text, Class<? extends RuntimeException> due) {
        Checks.type(x, text);
        Checks.refuses(x, "spelling of '" + text + "'", due, x::spelling);
        Checks.due("the tape is as it was", text.length(), x.wipe());
    }

    private static void spelling() {
        Checks.holds(5, "not a text of two words with a blank between them", () -> {
            String[] bad = {"", "a", "a ", "a/ab", "a ab c", "a ab/c", " a ab", "a  ab", "a ab ", "a /ab",
                "a abcdefghi", " a", " ab", " abc", "/abc", "abc ", "ab abc ", "abcdef abcdefghi", "abcdefg abcdefghi",
                "abcdefgh abcdefghi", "abcdefgh abcdefghij"};
            for (String text : bad) {
                refusesSpelling(new House(), text, Checks.ARGUMENT);
            }
        });
        Checks.holds(5, "the second one of 1 to 3 letters more", () -> {
            for (int brief = 1; brief <= 8; brief++) {
                for (int full = 1; full <= 8; full++) {
                    String text = "aaaaaaaa".substring(0, brief) + " " + "bbbbbbbb".substring(0, full);
                    if (full - brief >= 1 && full - brief <= 3) {
                        Checks.due("spelling of '" + text + "'", 0, Checks.spelling(new House(), text));
                    } else {
                        refusesSpelling(new House(), text, Checks.ARGUMENT);
                    }
                }
            }
        });
        Checks.holds(5, "or one of them is in a spelling", () -> {
            House x = new House();
            Checks.spelling(x, "ab abc");
            Checks.spelling(x, "d de");
            String[] known = {"ab xyz", "abc wxyz", "x ab", "x abc", "ab abc", "d def", "de def", "x de"};
            for (String text : known) {
                refusesSpelling(x, text, Checks.ARGUMENT);
            }
            Checks.due("other words", 2, Checks.spelling(x, "a abcd"));
        });
        Checks.holds(5, "at most 6, numbered from 0", () -> {
            House x = new House();
            for (int number = 0; number < 6; number++) {
                char letter = (char) ('a' + number);
                Checks.due("spelling " + number, number, Checks.spelling(x, letter + " " + letter + letter));
            }
            refusesSpelling(x, "g gg", Checks.STATE);
            refusesSpelling(x, "g ff", Checks.ARGUMENT);
            refusesSpelling(x, "g g", Checks.ARGUMENT);
            refusesSpelling(x, "", Checks.ARGUMENT);
        });
        Checks.holds(5, "or some book has copy", () -> {
            for (int book = 0; book < 3; book++) {
                House x = new House();
                for (int i = 0; i < 3; i++) {
                    x.book(2, 1, 10, 1, 2);
                }
                Checks.due("no book has copy", 0, Checks.spelling(x, "a ab"));
                Checks.copy(x, book, "c");
                refusesSpelling(x, "d de", Checks.STATE);
                refusesSpelling(x, "d d", Checks.ARGUMENT);
                refusesSpelling(x, "a de", Checks.ARGUMENT);
            }
        });
        Checks.holds(5, "the tape is empty then", () -> {
            House x = new House();
            Checks.spelling(x, "a ab");
            Checks.due("fault", 0, x.fault());
            Checks.due("wipe", 0, x.wipe());
        });
    }

    // ---- promises 6 to 9

    private static House withPieces(int many) {
        House x = new House();
        for (int left = many; left > 0; left -= 40) {
            x.cast(0, Math.min(left, 40));
        }
        return x;
    }

    private static void cast() {
        Checks.holds(6, "sort: 0 to 27", () -> {
            Checks.takes(0, 27, House::new, (x, sort) -> {
                Checks.due("cast of " + sort, 1, x.cast(sort, 1));
                Checks.due("its box", 0, x.box(sort, 0));
                Checks.due("its sort", sort, x.piece(0, 0));
            });
            Checks.refusesBeyond(0, 27, Checks.ARGUMENT, House::new, (x, sort) -> x.cast(sort, 1));
        });
        Checks.holds(6, "many: 1 to 40", () -> {
            Checks.takes(1, 40, House::new, (x, many) -> Checks.due("cast " + many, many, x.cast(3, many)));
            Checks.refusesBeyond(1, 40, Checks.ARGUMENT, House::new, (x, many) -> x.cast(3, many));
        });
        Checks.holds(6, "on top of its box, one by one", () -> {
            House x = new House();
            x.cast(5, 2);
            x.cast(6, 1);
            x.cast(5, 2);
            int[] due = {4, 3, 1, 0, Leadchapel.NONE};
            for (int place = 0; place < due.length; place++) {
                Checks.due("place " + place, due[place], x.box(5, place));
            }
        });
        Checks.holds(6, "if there would be more than 400", () -> {
            Checks.due("40 more than 360", 400, withPieces(360).cast(27, 40));
            int[][] all = {{399, 1}, {361, 39}};
            for (int[] both : all) {
                House x = withPieces(both[0]);
                Checks.refuses(x, "one more than 400", Checks.STATE, () -> x.cast(27, both[1] + 1));
                Checks.due("400", 400, x.cast(27, both[1]));
                Checks.refuses(x, "one more piece", Checks.STATE, () -> x.cast(0, 1));
                Checks.refuses(x, "40 more pieces", Checks.STATE, () -> x.cast(0, 40));
            }
        });
        Checks.holds(6, "IllegalArgumentException is named first", () -> {
            House x = withPieces(400);
            Checks.refuses(x, "41 beyond 400", Checks.ARGUMENT, () -> x.cast(0, 41));
            Checks.refuses(x, "none beyond 400", Checks.ARGUMENT, () -> x.cast(0, 0));
            Checks.refuses(x, "sort 28 beyond 400", Checks.ARGUMENT, () -> x.cast(28, 1));
            Checks.refuses(x, "sort -1 beyond 400", Checks.ARGUMENT, () -> x.cast(-1, 1));
        });
    }

    private static void wear() {
        Checks.holds(7, "no such piece", () -> {
            Checks.refusesBeyond(0, 2, Checks.INDEX, () -> withPieces(3), (x, piece) -> x.wear(piece));
            Checks.takes(0, 2, () -> withPieces(3), (x, piece) -> Checks.due("wear", 1, x.wear(piece)));
            House none = new House();
            Checks.refuses(none, "piece 0 of none", Checks.INDEX, () -> none.wear(0));
            House full = withPieces(400);
            Checks.refuses(full, "piece 400", Checks.INDEX, () -> full.wear(400));
            Checks.due("piece 399", 1, full.wear(399));
        });
        Checks.holds(7, "if it is worn 3", () -> {
            House x = withPieces(2);
            for (int worn = 1; worn <= 3; worn++) {
                Checks.due("worn", worn, x.wear(1));
            }
            Checks.refuses(x, "a fourth time", Checks.STATE, () -> x.wear(1));
            Checks.due("the other one", 1, x.wear(0));
        });
    }

    private static void piece() {
        Checks.holds(8, "the number of a piece", () -> {
            Checks.takes(0, 4, () -> withPieces(5), (x, piece) -> Checks.due("sort", 0, x.piece(piece, 0)));
            Checks.refusesBeyond(0, 4, Checks.INDEX, () -> withPieces(5), (x, piece) -> x.piece(piece, 0));
            House full = withPieces(400);
            Checks.due("piece 399", 0, full.piece(399, 2));
            Checks.refuses(full, "piece 400", Checks.INDEX, () -> full.piece(400, 0));
        });
        Checks.holds(8, "what: 0 to 2", () -> {
            Checks.takes(0, 2, () -> withPieces(1), (x, what) -> Checks.due("told", 0, x.piece(0, what)));
            Checks.refusesBeyond(0, 2, Checks.ARGUMENT, () -> withPieces(1), (x, what) -> x.piece(0, what));
        });
        Checks.holds(8, "worn, 0 to 3, 0 at first", () -> {
            House x = withPieces(1);
            for (int worn = 0; worn < 3; worn++) {
                Checks.due("worn", worn, x.piece(0, 1));
                x.wear(0);
            }
            Checks.due("worn", 3, x.piece(0, 1));
        });
        Checks.holds(8, "IndexOutOfBoundsException is named first", () -> {
            House x = withPieces(1);
            Checks.refuses(x, "piece 1, what 3", Checks.INDEX, () -> x.piece(1, 3));
            Checks.refuses(x, "piece -1, what -1", Checks.INDEX, () -> x.piece(-1, -1));
        });
        Checks.holds(8, "100, 100 times the number of the book, and the page, together",
                EdgesOfWordsAndTypeTests::wherePiecesAre);
    }

    private static void wherePiecesAre() {
        House x = Shop.withBook(2, 4, 10, 1, 2);
        x.book(2, 4, 10, 1, 2);
        x.book(2, 4, 10, 1, 2);
        x.cast(0, 40);
        x.cast(0, 8);
        int piece = 47;
        for (int book = 0; book < 3; book++) {
            Checks.copy(x, book, "a/a/a/a/a/a/a/a");
            Checks.copy(x, book, "a/a/a/a/a/a/a/a");
            for (int page = 0; page < 16; page++) {
                Checks.due("ahead of it", 0, x.piece(piece, 2));
                x.set(book, page, 0);
                Checks.due("book " + book + ", page " + page, 100 + 100 * book + page, x.piece(piece, 2));
                piece--;
            }
        }
        Checks.due("the last box", 27, boxOf(27));
        Checks.due("the first box", 0, boxOf(0));
    }

    private static int boxOf(int sort) {
        House x = new House();
        x.cast(sort, 1);
        return x.piece(0, 2);
    }

    private static void box() {
        Checks.holds(9, "sort: 0 to 27", () -> {
            Checks.takes(0, 27, House::new, (x, sort) -> Checks.due("box", Leadchapel.NONE, x.box(sort, 0)));
            Checks.refusesBeyond(0, 27, Checks.ARGUMENT, House::new, (x, sort) -> x.box(sort, 0));
        });
        Checks.holds(9, "place is below 0", () -> {
            House x = withPieces(2);
            Checks.refuses(x, "place -1", Checks.INDEX, () -> x.box(0, -1));
            Checks.refuses(x, "place -1 of an empty box", Checks.INDEX, () -> x.box(1, -1));
            Checks.refuses(x, "the least place", Checks.INDEX, () -> x.box(0, Integer.MIN_VALUE));
        });
        Checks.holds(9, "NONE if there are not so many", () -> {
            House x = withPieces(2);
            Checks.due("place 0", 1, x.box(0, 0));
            Checks.due("place 1", 0, x.box(0, 1));
            Checks.due("place 2", Leadchapel.NONE, x.box(0, 2));
            Checks.due("the greatest place", Leadchapel.NONE, x.box(0, Integer.MAX_VALUE));
            Checks.due("the greatest place of an empty box", Leadchapel.NONE, x.box(1, Integer.MAX_VALUE));
            House full = withPieces(400);
            Checks.due("the lowest of 400", 0, full.box(0, 399));
            Checks.due("below 400", Leadchapel.NONE, full.box(0, 400));
        });
        Checks.holds(9, "IllegalArgumentException is named first", () -> {
            House x = withPieces(2);
            Checks.refuses(x, "box 28 at -1", Checks.ARGUMENT, () -> x.box(28, -1));
            Checks.refuses(x, "box -1 at -1", Checks.ARGUMENT, () -> x.box(-1, -1));
        });
    }

    // ---- promise 10

    private static void hand() {
        Checks.holds(10, "likes: 0 to 63", () -> {
            Checks.takes(0, 63, House::new, (x, likes) -> Checks.due("hand", 0, x.hand(likes, 0, 0)));
            Checks.refusesBeyond(0, 63, Checks.ARGUMENT, House::new, (x, likes) -> x.hand(likes, 0, 0));
        });
        Checks.holds(10, "drops: 0 to 9", () -> {
            Checks.takes(0, 9, House::new, (x, drops) -> Checks.due("hand", 0, x.hand(0, drops, 0)));
            Checks.refusesBeyond(0, 9, Checks.ARGUMENT, House::new, (x, drops) -> x.hand(0, drops, 0));
        });
        Checks.holds(10, "skips: 0 to 9", () -> {
            Checks.takes(0, 9, House::new, (x, skips) -> Checks.due("hand", 0, x.hand(0, 0, skips)));
            Checks.refusesBeyond(0, 9, Checks.ARGUMENT, House::new, (x, skips) -> x.hand(0, 0, skips));
        });
        Checks.holds(10, "numbered from 0, at most 4", () -> {
            House x = new House();
            Checks.refuses(x, "skips 10", Checks.ARGUMENT, () -> x.hand(0, 0, 10));
            for (int number = 0; number < 4; number++) {
                Checks.due("hand", number, x.hand(63, 9, 9));
            }
            Checks.refuses(x, "a fifth hand", Checks.STATE, () -> x.hand(0, 0, 0));
            Checks.refuses(x, "hand 4", Checks.INDEX, () -> x.account(0, 4));
        });
        Checks.holds(10, "IllegalArgumentException is named first", () -> {
            House x = new House();
            for (int number = 0; number < 4; number++) {
                x.hand(0, 0, 0);
            }
            Checks.refuses(x, "likes 64", Checks.ARGUMENT, () -> x.hand(64, 0, 0));
            Checks.refuses(x, "drops 10", Checks.ARGUMENT, () -> x.hand(0, 10, 0));
            Checks.refuses(x, "skips 10", Checks.ARGUMENT, () -> x.hand(0, 0, 10));
            Checks.refuses(x, "likes -1", Checks.ARGUMENT, () -> x.hand(-1, 0, 0));
        });
        Checks.holds(10, "told as bits, that of the spelling 0 lowest", EdgesOfWordsAndTypeTests::likes);
        Checks.holds(10, "each drops-th one, counted from its first one on", () -> {
            for (int drops = 0; drops <= 9; drops++) {
                dueDropped(drops);
            }
        });
        Checks.holds(10, "the next sort (0 behind 27)", EdgesOfWordsAndTypeTests::nextSorts);
        Checks.holds(10, "it skips at each skips-th chance", () -> {
            int[] words = {40, 20, 27, 30, 32, 34, 35, 35, 36, 36};
            for (int skips = 0; skips <= 9; skips++) {
                dueSkipped(skips, words[skips]);
            }
        });
        Checks.holds(10, "counted likewise, from its first one on", EdgesOfWordsAndTypeTests::chancesGoOn);
    }

    private static void likes() {
        for (int likes = 0; likes < 64; likes++) {
            House x = new House();
            for (char letter = 'a'; letter < 'g'; letter++) {
                Checks.spelling(x, letter + " " + letter + "x");
            }
            x.hand(likes, 0, 0);
            x.book(2, 1, 24, 1, 2);
            Checks.copy(x, 0, likes % 2 == 0 ? "a b c d e f" : "ax bx cx dx ex fx");
            x.set(0, 0, 0);
            Checks.due("the long ones of a hand that likes " + likes, likes, x.line(0, 0, 0, 4));
        }
    }

    /** Ten pieces on a page of each forme; the m-th that is put away is the piece 20 - m. */
    private static void dueDropped(int drops) {
        House x = new House();
        x.cast(0, 20);
        x.hand(0, 0, 0);
        x.hand(0, drops, 0);
        x.men(0, 2);
        x.book(2, 1, 24, 1, 2);
        Checks.copy(x, 0, "aaaaaaaa aa/aaaaaaaa aa");
        Shop.setAll(x, 0);
        Shop.bringThrough(x, 0, 0, 1);
        Shop.bringThrough(x, 0, 1, 1);
        for (int m = 1; m <= 20; m++) {
            int due = drops > 0 && m % drops == 0 ? 1 : 0;
            Checks.due("the box of piece " + m + " by drops " + drops, due, x.piece(20 - m, 2));
        }
    }

    private static void nextSorts() {
        for (int sort = 0; sort < 28; sort++) {
            House x = new House();
            x.cast(sort, 1);
            x.hand(0, 1, 0);
            x.men(0, 2);
            x.book(2, 1, 10, 1, 2);
            Checks.copy(x, 0, sort == 26 ? "fi" : sort == 27 ? "fl" : String.valueOf((char) ('a' + sort)));
            Shop.setAll(x, 0);
            Shop.bringThrough(x, 0, 0, 0);
            Checks.due("the box behind " + sort, sort == 27 ? 0 : sort + 1, x.piece(0, 2));
            Checks.due("still of its sort", sort, x.piece(0, 0));
        }
    }

    /** At each word of the copy but the last one there is a chance. */
    private static void dueSkipped(int skips, int words) {
        House x = new House();
        x.hand(0, 0, skips);
        x.book(2, 1, 24, 6, 2);
        Shop.copyMany(x, 0, 'a', 40);
        x.set(0, 0, 0);
        Checks.due("words by skips " + skips, words, x.page(0, 0, 2));
        Checks.due("through by skips " + skips, 40, x.page(0, 0, 3));
    }

    /** Two chances on each of two pages, and the fifth one in another book; chances of another hand are its own. */
    private static void chancesGoOn() {
        House x = new House();
        x.hand(0, 0, 5);
        x.hand(0, 0, 1);
        x.book(2, 1, 10, 1, 2);
        x.book(2, 1, 10, 1, 2);
        Checks.copy(x, 0, "a a a/b b b/c c");
        Checks.copy(x, 1, "a a a");
        x.set(0, 0, 0);
        Checks.due("the first page has chances 1 and 2", 3, x.page(0, 0, 2));
        x.set(0, 1, 0);
        Checks.due("the second page has chances 3 and 4", 3, x.page(0, 1, 2));
        x.set(0, 2, 1);
        Checks.due("another hand counts its own", 1, x.page(0, 2, 2));
        x.set(1, 0, 0);
        Checks.due("the other book has chance 5", 2, x.page(1, 0, 2));
        Checks.due("and goes on behind it", 3, x.page(1, 0, 3));
    }

    public static void main(String[] args) {
        newObject();
        type();
        wipe();
        fault();
        spelling();
        cast();
        wear();
        piece();
        box();
        hand();
        Checks.endOf(1, 10);
    }
}
