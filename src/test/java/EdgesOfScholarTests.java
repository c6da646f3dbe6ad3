/** Each boundary case of promises 37 to 44, by the sentence that names it: what is claimed of a book, and accounts. */
public final class EdgesOfScholarTests {
    private EdgesOfScholarTests() {
    }

    /** A house with eight pieces of a, and a book of so many sheets, each forme of which takes all of them. */
    private static House house(int sheets) {
        House x = Shop.withBook(2, sheets, 10, 1, 2);
        x.cast(0, 8);
        for (int sheet = 0; sheet < sheets; sheet++) {
            Checks.copy(x, 0, "aaaa/aaaa/aaaa/aaaa");
        }
        x.castOff(0, 50);
        return x;
    }

    private static int[] pagesOf(int forme) {
        int first = forme / 2 * 4;
        return forme % 2 == 0 ? new int[] {first, first + 3} : new int[] {first + 1, first + 2};
    }

    private static void bringTo(House x, int forme, int how, int skeleton) {
        for (int page : pagesOf(forme)) {
            x.set(0, page, 0);
        }
        if (how >= Leadchapel.LOCKED) {
            x.lock(0, forme, skeleton);
        }
        if (how >= Leadchapel.ON) {
            x.print(0, 0, forme);
        }
        if (how >= Leadchapel.DONE) {
            x.pass(2);
        }
        if (how >= Leadchapel.GONE) {
            x.putAway(0, forme, 0);
        }
    }

    private static void bringThrough(House x, int forme) {
        bringTo(x, forme, Leadchapel.GONE, 0);
    }

    private static void dueOrders(House x, int book, int want) {
        Checks.due("orders", want, x.orders(book));
        Checks.due("orders anew", want, x.ordersAnew(book));
    }

    // ---- promise 37

    private static void shared() {
        Checks.holds(37, "no such book or forme", () -> {
            Checks.refusesBeyond(0, 0, Checks.INDEX, () -> house(2), (x, book) -> x.shared(book, 0, 1));
            Checks.refusesBeyond(0, 3, Checks.INDEX, () -> house(2), (x, forme) -> x.shared(0, forme, 1));
            Checks.refusesBeyond(0, 3, Checks.INDEX, () -> house(2), (x, forme) -> x.shared(0, 1, forme));
            Checks.takes(1, 3, () -> house(2), (x, forme) -> Checks.due("shared", 0, x.shared(0, forme, 0)));
            Checks.takes(0, 2, () -> house(2), (x, forme) -> Checks.due("shared", 0, x.shared(0, 3, forme)));
        });
        Checks.holds(37, "if both are the same", () -> {
            House x = house(2);
            for (int forme = 0; forme < 4; forme++) {
                int its = forme;
                Checks.refuses(x, "forme " + forme, Checks.ARGUMENT, () -> x.shared(0, its, its));
            }
            Checks.refuses(x, "forme 4, which is not there", Checks.INDEX, () -> x.shared(0, 4, 4));
            Checks.refuses(x, "forme -1, which is not there", Checks.INDEX, () -> x.shared(0, -1, -1));
            Checks.refuses(x, "forme 0 of no book", Checks.INDEX, () -> x.shared(1, 0, 0));
        });
        Checks.holds(37, "A piece is seen in a forme, if it was there, and worn 1 or more", () -> {
            for (int worn = 0; worn <= 3; worn++) {
                House x = house(1);
                for (int i = 0; i < worn; i++) {
                    x.wear(5);
                }
                bringThrough(x, 0);
                bringThrough(x, 1);
                Checks.due("worn " + worn, worn == 0 ? 1000 : 1001, x.shared(0, 0, 1));
                dueOrders(x, 0, 2);
            }
            House all = house(1);
            for (int piece = 0; piece < 8; piece++) {
                all.wear(piece);
            }
            bringThrough(all, 0);
            bringTo(all, 1, Leadchapel.GONE, 1);
            Checks.due("all eight", 8, all.shared(0, 0, 1));
            House full = house(1);
            for (int i = 0; i < 9; i++) {
                full.cast(0, 40);
            }
            full.cast(0, 32);
            full.wear(399);
            full.wear(0);
            bringThrough(full, 0);
            full.wear(399);
            bringThrough(full, 1);
            Checks.due("the last of 400 pieces", 1001, full.shared(0, 0, 1));
            dueOrders(full, 0, 1);
            Checks.due("ahead by the last of 400 pieces", 1, full.ahead(0, 0, 1));
        });
        Checks.holds(37, "told by how it was when it was DONE", EdgesOfScholarTests::seenWhenDone);
        Checks.holds(37, "1000 more, if both were locked, and in the same skeleton", () -> {
            Checks.due("both are OPEN", 0, house(1).shared(0, 0, 1));
            House x = house(2);
            bringTo(x, 3, Leadchapel.GONE, 5);
            Checks.due("one is OPEN", 0, x.shared(0, 3, 0));
            bringTo(x, 1, Leadchapel.LOCKED, 5);
            Checks.due("one is GONE, the other LOCKED", 1000, x.shared(0, 1, 3));
            Checks.due("the other way", 1000, x.shared(0, 3, 1));
            House y = house(2);
            bringTo(y, 3, Leadchapel.GONE, 5);
            bringTo(y, 1, Leadchapel.LOCKED, 4);
            Checks.due("another skeleton", 0, y.shared(0, 1, 3));
            House z = house(2);
            bringTo(z, 3, Leadchapel.GONE, 0);
            Checks.due("skeleton 0, and none", 0, z.shared(0, 0, 3));
        });
    }

    private static void seenWhenDone() {
        House x = house(1);
        x.wear(0);
        bringThrough(x, 0);
        bringTo(x, 1, Leadchapel.ON, 1);
        Checks.due("in a forme that is ON", 0, x.shared(0, 0, 1));
        x.pass(2);
        Checks.due("when it is DONE", 1, x.shared(0, 0, 1));
        House y = house(1);
        bringTo(y, 0, Leadchapel.DONE, 0);
        y.wear(0);
        y.putAway(0, 0, 0);
        bringThrough(y, 1);
        Checks.due("worn behind the one, ahead of the other", 1000, y.shared(0, 0, 1));
        House z = house(1);
        bringTo(z, 0, Leadchapel.ON, 0);
        z.wear(0);
        z.pass(2);
        z.putAway(0, 0, 0);
        z.wear(0);
        bringTo(z, 1, Leadchapel.DONE, 0);
        z.wear(0);
        Checks.due("worn on the press", 1001, z.shared(0, 0, 1));
        Checks.due("worn more and more", 1, z.ahead(0, 0, 1));
    }

    // ---- promises 38 to 40

    private static void orders() {
        for (int promise = 38; promise <= 39; promise++) {
            boolean anew = promise == 39;
            Checks.holds(promise, "no such book", () -> {
                Checks.refusesBeyond(0, 0, Checks.INDEX, () -> house(1), (x, book) -> ask(x, book, anew));
                House none = new House();
                Checks.refuses(none, "book 0 of none", Checks.INDEX, () -> ask(none, 0, anew));
            });
            Checks.holds(promise, "An order of all formes of a book", () -> {
                House x = new House();
                x.book(8, 1, 10, 1, 2);
                x.book(2, 3, 10, 1, 2);
                x.book(2, 4, 10, 1, 2);
                Checks.due("2 formes", 2, ask(x, 0, anew));
                Checks.due("6 formes", 720, ask(x, 1, anew));
                Checks.due("8 formes", 40320, ask(x, 2, anew));
                Checks.due("2 formes again", 2, ask(x, 0, anew));
            });
            Checks.holds(promise, "of all formes of a book, and of no other one", () -> {
                House x = chain(8);
                x.book(2, 4, 10, 1, 2);
                x.book(2, 2, 10, 1, 2);
                Checks.due("8 formes in a row", 1, ask(x, 0, anew));
                Checks.due("another book", 40320, ask(x, 1, anew));
                Checks.due("the first one again", 1, ask(x, 0, anew));
                Checks.due("a smaller one", 24, ask(x, 2, anew));
                Checks.due("4 of 8 formes", 1680, ask(chain(4), 0, anew));
            });
            Checks.holds(promise, "each forme is ahead of those of which it is surely ahead", () -> {
                House x = chain(8);
                Checks.due("8 formes in a row", 1, ask(x, 0, anew));
                Checks.due("2 of 8 formes", 20160, ask(chain(2), 0, anew));
                Checks.due("1 of 8 formes", 40320, ask(chain(1), 0, anew));
                Checks.due("7 of 8 formes", 8, ask(chain(7), 0, anew));
            });
        }
    }

    private static int ask(House x, int book, boolean anew) {
        return anew ? x.ordersAnew(book) : x.orders(book);
    }

    /** Brings so many of eight formes through, from the last one down, each with a piece that is worn once more. */
    private static House chain(int many) {
        House x = house(4);
        int[][] wears = {{0}, {0}, {0, 1}, {1}, {1, 2}, {2}, {2, 3}, {3}};
        for (int i = 0; i < many; i++) {
            for (int piece : wears[i]) {
                x.wear(piece);
            }
            bringThrough(x, 7 - i);
        }
        return x;
    }

    private static void ahead() {
        Checks.holds(40, "no such book or forme", () -> {
            Checks.refusesBeyond(0, 0, Checks.INDEX, () -> house(2), (x, book) -> x.ahead(book, 0, 1));
            Checks.refusesBeyond(0, 3, Checks.INDEX, () -> house(2), (x, forme) -> x.ahead(0, forme, 1));
            Checks.refusesBeyond(0, 3, Checks.INDEX, () -> house(2), (x, forme) -> x.ahead(0, 1, forme));
            Checks.takes(1, 3, () -> house(2), (x, forme) -> Checks.due("ahead", 0, x.ahead(0, forme, 0)));
            Checks.takes(0, 2, () -> house(2), (x, forme) -> Checks.due("ahead", 0, x.ahead(0, 3, forme)));
        });
        Checks.holds(40, "if both are the same", () -> {
            House x = house(2);
            for (int forme = 0; forme < 4; forme++) {
                int its = forme;
                Checks.refuses(x, "forme " + forme, Checks.ARGUMENT, () -> x.ahead(0, its, its));
            }
            Checks.refuses(x, "forme 4, which is not there", Checks.INDEX, () -> x.ahead(0, 4, 4));
            Checks.refuses(x, "forme 0 of no book", Checks.INDEX, () -> x.ahead(1, 0, 0));
        });
        Checks.holds(40, "1 if it is in all orders that fit, 0 if it is in some, -1 if it is in none", () -> {
            House x = chain(8);
            for (int one = 0; one < 8; one++) {
                for (int other = 0; other < 8; other++) {
                    if (one != other) {
                        Checks.due("ahead " + one + " " + other, one > other ? 1 : -1, x.ahead(0, one, other));
                    }
                }
            }
            House y = chain(3);
            Checks.due("the first of three", 1, y.ahead(0, 7, 5));
            Checks.due("the last of three", -1, y.ahead(0, 5, 7));
            Checks.due("one of the others", 0, y.ahead(0, 0, 7));
            Checks.due("two of the others", 0, y.ahead(0, 0, 1));
        });
        Checks.holds(40, "1 if it is in all orders, by formes that are between", () -> {
            dueBetween("aaaa/aaaa/bbbb/aaaa/bbbb/aaaa/aaaa/bbbb", 0, 1);
            dueBetween("aaaa/aaaa/aaaa/bbbb/bbbb/aaaa/aaaa/bbbb", 1, 0);
        });
        Checks.holds(40, "1 if it is in all orders, by all that are between", () -> {
            dueRow(8, 0, 1, 2, 3, 4, 5, 6, 7);
            dueRow(8, 7, 6, 5, 4, 3, 2, 1, 0);
            dueRow(8, 3, 7, 0, 5, 2, 6, 1, 4);
            dueRow(8, 4, 1, 6, 2, 5, 0, 7, 3);
            dueRow(5, 0, 1, 2, 3, 4, 5, 6, 7);
            dueRow(5, 7, 2, 6, 0, 4, 1, 3, 5);
        });
        Checks.holds(40, "and was less worn in it", () -> {
            House x = house(2);
            x.wear(0);
            bringThrough(x, 0);
            bringThrough(x, 3);
            Checks.due("worn just as much", 0, x.ahead(0, 0, 3));
            x.wear(0);
            bringThrough(x, 1);
            Checks.due("worn by one more", 1, x.ahead(0, 0, 1));
            Checks.due("worn by one more, too", -1, x.ahead(0, 1, 3));
            dueOrders(x, 0, 8);
        });
    }

    /** One forme has pieces of a, the next one of both, and the forme 2 of b, so that the first and it share none. */
    private static void dueBetween(String copy, int first, int between) {
        House x = Shop.withBook(2, 2, 10, 1, 2);
        x.cast(0, 8);
        x.cast(1, 8);
        Checks.copy(x, 0, copy);
        x.castOff(0, 50);
        for (int piece = 0; piece < 8; piece++) {
            x.wear(piece);
        }
        bringTo(x, first, Leadchapel.GONE, 0);
        for (int piece = 0; piece < 16; piece++) {
            x.wear(piece);
        }
        bringTo(x, between, Leadchapel.GONE, 1);
        for (int piece = 8; piece < 16; piece++) {
            x.wear(piece);
        }
        bringTo(x, 2, Leadchapel.GONE, 2);
        Checks.due("shared by the first and the last", 0, x.shared(0, first, 2) % 1000 == 0 ? 0 : 1);
        Checks.due("the first is ahead of the one between", 1, x.ahead(0, first, between));
        Checks.due("and of the last one", 1, x.ahead(0, first, 2));
        Checks.due("the last one is in no order ahead", -1, x.ahead(0, 2, first));
        Checks.due("the forme 3 is nowhere", 0, x.ahead(0, first, 3));
        dueOrders(x, 0, 4);
    }

    /**
     * Eight formes of two words each, of which so many are brought through in this order, each with a piece of the one
     * ahead of it, and a piece for the one behind it, so that no others share a piece.
     */
    private static void dueRow(int many, int... order) {
        House x = Shop.withBook(2, 4, 10, 1, 2);
        Checks.castAll(x, "abcdefghi", 1);
        char[] first = new char[8];
        for (int at = 0; at < 8; at++) {
            first[order[at]] = (char) ('a' + at);
        }
        for (int sheet = 0; sheet < 4; sheet++) {
            String outer = "" + first[2 * sheet] + (char) (first[2 * sheet] + 1) + "zz";
            String inner = "" + first[2 * sheet + 1] + (char) (first[2 * sheet + 1] + 1) + "zz";
            Checks.copy(x, 0, outer + "/" + inner + "/zzzz/zzzz");
        }
        x.castOff(0, 50);
        for (int at = 0; at < many; at++) {
            x.wear(at);
            x.wear(at + 1);
            bringThrough(x, order[at]);
        }
        for (int one = 0; one < 8; one++) {
            for (int other = 0; other < 8; other++) {
                if (one != other) {
                    int due = Math.max(one, other) >= many ? 0 : one < other ? 1 : -1;
                    Checks.due("number " + one + " ahead of " + other, due, x.ahead(0, order[one], order[other]));
                }
            }
        }
        int free = 1;
        for (int left = many + 1; left <= 8; left++) {
            free *= left;
        }
        dueOrders(x, 0, free);
    }

    // ---- promise 41

    /** Pages of one line by hands that like these forms of do and doe, and go and gooee. */
    private static House pages(int measure, String copy, int... likes) {
        House x = new House();
        Checks.spelling(x, "do doe");
        Checks.spelling(x, "go gooee");
        for (int hand = 0; hand < 4; hand++) {
            x.hand(hand, 0, 0);
        }
        x.book(4, 1, measure, 1, 2);
        Checks.copy(x, 0, copy);
        for (int page = 0; page < likes.length; page++) {
            x.set(0, page, likes[page]);
        }
        return x;
    }

    private static void hands() {
        Checks.holds(41, "no such book", () -> {
            Checks.refusesBeyond(0, 0, Checks.INDEX, () -> pages(10, "do/do", 0), (x, book) -> x.hands(book));
            House none = new House();
            Checks.refuses(none, "book 0 of none", Checks.INDEX, () -> none.hands(0));
        });
        Checks.holds(41, "0 if no page is set", () -> {
            Checks.due("no page", 0, pages(10, "do/do").hands(0));
            Checks.due("one page", 1, pages(10, "do/do", 0).hands(0));
            Checks.due("pages without words", 1, pages(10, "ab", 0, 1, 2, 3).hands(0));
        });
        Checks.holds(41, "3 units or more are missing", () -> {
            Checks.due("4 and 3", 2, pages(10, "abc do/abc do", 0, 1).hands(0));
            Checks.due("3 and 3", 2, pages(10, "abcd do/abc do", 0, 1).hands(0));
            Checks.due("2 and 3", 1, pages(10, "abcde do/abc do", 0, 1).hands(0));
            Checks.due("3 and 2", 1, pages(10, "abcd do/abcd do", 0, 1).hands(0));
            Checks.due("0 and 7", 1, pages(10, "abcdefg do/do", 0, 1).hands(0));
        });
        Checks.holds(41, "it did not end ahead of a word that does not fit", () -> {
            House x = pages(10, "do/do abcdefgh", 0, 1);
            Checks.due("the line is cut", 1, x.line(0, 1, 0, 3));
            Checks.due("and 7 units are missing", 7, x.line(0, 1, 0, 2));
            Checks.due("the other form in a line that is cut", 1, x.hands(0));
            House y = pages(10, "do/do/abcdefgh", 0, 1);
            Checks.due("the line is not cut", 0, y.line(0, 1, 0, 3));
            Checks.due("the other form in a line that is not", 2, y.hands(0));
        });
        Checks.holds(41, "and its page is not crowded", () -> {
            House x = pages(10, "do/abc ab/do");
            x.castOff(0, 100);
            x.set(0, 0, 1);
            Checks.due("crowded, in the short form", 1, x.page(0, 0, 4));
            x.set(0, 1, 1);
            Checks.due("the long form", 1, x.line(0, 1, 0, 4));
            Checks.due("not unlike", 1, x.hands(0));
        });
        Checks.holds(41, "in the short form in a loose line of one, and in the long one in one of the other", () -> {
            Checks.due("short and short", 1, pages(10, "do/do", 0, 2).hands(0));
            Checks.due("long and long", 1, pages(10, "do/do", 1, 3).hands(0));
            Checks.due("short and long", 2, pages(10, "do/do", 0, 1).hands(0));
            Checks.due("long and short", 2, pages(10, "do/do", 1, 0).hands(0));
            Checks.due("the other spelling", 2, pages(10, "go/go", 0, 2).hands(0));
            Checks.due("two spellings", 1, pages(10, "do/go", 0, 3).hands(0));
        });
        Checks.holds(41, "in a loose line, of all of a page", () -> {
            House x = pages(10, "do", 0);
            x.book(2, 1, 10, 3, 2);
            x.book(2, 1, 10, 1, 2);
            Checks.copy(x, 1, "do/ab/ef/ab/cd/do");
            Checks.copy(x, 2, "do/do");
            x.set(1, 0, 0);
            x.set(1, 1, 1);
            x.set(2, 0, 0);
            x.set(2, 1, 2);
            Checks.due("the first line of one, the last line of the other", 2, x.hands(1));
            Checks.due("of a book with one page", 1, x.hands(0));
            Checks.due("once more", 2, x.hands(1));
            Checks.due("of another book", 1, x.hands(2));
            House y = pages(10, "do", 0);
            y.book(2, 1, 10, 2, 2);
            Checks.copy(y, 1, "do/do/do/ab");
            y.set(1, 0, 0);
            y.set(1, 1, 1);
            Checks.due("two lines of one, and a line of the other", 2, y.hands(1));
            House z = pages(10, "ab/ab/do/do", 0, 0, 0, 1);
            z.book(2, 1, 10, 1, 2);
            Checks.copy(z, 1, "do/do");
            z.set(1, 0, 0);
            z.set(1, 1, 2);
            Checks.due("the last two of four pages", 2, z.hands(0));
            Checks.due("two pages of another book", 1, z.hands(1));
        });
        Checks.holds(41, "pages that are alike need not be by one hand", EdgesOfScholarTests::handsInARing);
        Checks.holds(41, "two unlike ones in one, whichever of all 16 pages it is", () -> {
            for (int page = 0; page < 16; page++) {
                dueUnlikeOthers(page);
            }
        });
        Checks.holds(41, "the least number into which all pages that are set can be parted", () -> {
            Checks.due("four of each two", 4, pages(24, "go do/go do/go do/go do/go do/go do", 0, 1, 2, 3, 3, 2)
                    .hands(0));
            Checks.due("three", 3, pages(24, "go do/go do/go do/go do", 0, 1, 2, 1).hands(0));
            Checks.due("the first is like all", 2, pages(24, "go/do/do", 1, 0, 1).hands(0));
            Checks.due("two alike, and two alike", 2, pages(10, "do/do/do/do", 0, 0, 1, 1).hands(0));
            Checks.due("two alike, and three alike", 2, pages(10, "do/do/do/do/do", 1, 1, 0, 0, 0).hands(0));
            Checks.due("each second one alike", 2, pages(10, "do/do/do/do/do/do", 0, 1, 0, 1, 0, 1).hands(0));
            Checks.due("two and two", 2, pages(10, "do/go/do/go", 0, 0, 1, 2).hands(0));
            Checks.due("two and two, the other way", 2, pages(10, "do/go/go/do", 1, 2, 0, 0).hands(0));
            Checks.due("a page that fits to both", 2, pages(24, "do/do/ab", 0, 1, 1).hands(0));
        });
    }

    /** Of 16 pages this one has the long form, all others the short one; in another book the last page has neither. */
    private static void dueUnlikeOthers(int page) {
        House x = new House();
        Checks.spelling(x, "do doe");
        x.hand(0, 0, 0);
        x.hand(1, 0, 0);
        for (int book = 0; book < 2; book++) {
            x.book(2, 4, 10, 1, 2);
            Checks.copy(x, book, "do/do/do/do/do/do/do/do/do/do");
            Checks.copy(x, book, book == 0 ? "do/do/do/do/do/do" : "do/do/do/do/do/ab");
            for (int other = 0; other < 16; other++) {
                x.set(book, other, other == page ? 1 : 0);
            }
        }
        Checks.due("page " + page + " of 16 has the long form", 2, x.hands(0));
        Checks.due("page " + page + " of 15, and one of neither", page < 15 ? 2 : 1, x.hands(1));
    }

    /** Each of six pages is unlike two others; the first two, which are alike, are by two hands all the same. */
    private static void handsInARing() {
        House x = new House();
        for (String pair : new String[] {"a ab", "c cd", "e ef", "g gh", "i ij", "k kl"}) {
            Checks.spelling(x, pair);
        }
        x.hand(0, 0, 0);
        x.hand(63, 0, 0);
        x.book(4, 1, 24, 1, 2);
        Checks.copy(x, 0, "k a/e g/a c/c e/g i/i k");
        int[] by = {0, 1, 1, 0, 0, 1};
        for (int page = 0; page < 6; page++) {
            x.set(0, page, by[page]);
        }
        Checks.due("hands", 2, x.hands(0));
    }

    // ---- promise 42

    /** A book of two sheets with all formes locked, and so many men at each press. */
    private static House printable(int edition, int men) {
        House x = Shop.withBook(2, 2, 10, 1, edition);
        for (int press = 0; press < 3; press++) {
            x.men(press, men);
        }
        Checks.copy(x, 0, "a");
        Shop.setPages(x, 0, 0, 8);
        for (int forme = 0; forme < 4; forme++) {
            x.lock(0, forme, forme);
        }
        return x;
    }

    /** Two formes from the first hour on, and two that are DONE in the last one, of so many hours. */
    private static void duePresses(String what, int edition, int hours, int due) {
        House x = printable(edition, 2);
        int each = 1 + (edition + 1) / 2;
        x.print(0, 0, 0);
        x.print(1, 0, 2);
        Checks.due("the first two", 2, x.pass(each));
        if (hours > 2 * each) {
            x.pass(hours - 2 * each);
        }
        x.print(0, 0, 1);
        x.print(1, 0, 3);
        Checks.due("the last two", 2, x.pass(each));
        Checks.due(what, due, x.presses(0));
    }

    private static void presses() {
        Checks.holds(42, "no such book", () -> {
            Checks.refusesBeyond(0, 0, Checks.INDEX, () -> printable(2, 1), (x, book) -> x.presses(book));
            House none = new House();
            Checks.refuses(none, "book 0 of none", Checks.INDEX, () -> none.presses(0));
        });
        Checks.holds(42, "0 if none of its formes was DONE", () -> {
            House x = printable(2, 2);
            Checks.due("LOCKED", 0, x.presses(0));
            x.print(0, 0, 0);
            Checks.due("ON", 0, x.presses(0));
            x.pass(1);
            Checks.due("made ready", 0, x.presses(0));
            x.pass(1);
            Checks.due("DONE", 1, x.presses(0));
            x.putAway(0, 0, 0);
            Checks.due("GONE", 1, x.presses(0));
        });
        Checks.holds(42, "one more for each two sheets of the edition, rounded up", () -> {
            for (int edition = 2; edition <= 24; edition++) {
                int hours = 1 + (edition + 1) / 2;
                duePresses("all by one press, edition " + edition, edition, 4 * hours, 1);
                duePresses("in an hour less, edition " + edition, edition, 4 * hours - 1, 2);
                duePresses("by two presses, edition " + edition, edition, 2 * hours, 2);
            }
        });
        Checks.holds(42, "both counted, rounded up", () -> {
            for (int between = 0; between <= 3; between++) {
                House x = printable(3, 2);
                x.print(0, 0, 0);
                if (between > 0) {
                    x.pass(between);
                }
                x.print(1, 0, 2);
                x.pass(3);
                Checks.due("6 hours in " + (3 + between), between < 3 ? 2 : 1, x.presses(0));
            }
            House x = printable(2, 2);
            x.print(0, 0, 0);
            x.print(1, 0, 2);
            x.pass(2);
            Checks.due("4 hours in 2", 2, x.presses(0));
            x.print(0, 0, 1);
            x.pass(2);
            Checks.due("6 hours in 4", 2, x.presses(0));
            x.print(0, 0, 3);
            x.pass(4);
            Checks.due("8 hours in 6", 2, x.presses(0));
        });
        Checks.holds(42, "the hours without holidays", () -> {
            for (int week = 0; week <= 70; week += 35) {
                dueAcross(week, 59, 2);
                dueAcross(week, 58, 2);
                dueAcross(week, 60, 2);
                dueAcross(week, 69, 2);
                dueAcross(week, 70, 2);
            }
        });
        Checks.holds(42, "divided by the hours without holidays, of many weeks", () -> {
            for (int hours = 102; hours <= 106; hours++) {
                for (int from : new int[] {0, 1, 44, 45, 59, 60, 69, 70, 100, 4200, 4242}) {
                    dueWeeks(from, hours);
                }
            }
        });
        Checks.holds(42, "as the first of them was put on a press", () -> {
            House x = printable(2, 2);
            x.men(2, 0);
            x.print(2, 0, 0);
            x.pass(9);
            x.print(0, 0, 2);
            x.pass(2);
            Checks.due("one that is ON is none of them", 1, x.presses(0));
            x.men(2, 2);
            x.pass(2);
            Checks.due("4 hours in 13", 1, x.presses(0));
            House y = printable(2, 2);
            y.pass(20);
            y.print(0, 0, 0);
            y.print(1, 0, 2);
            y.pass(20);
            Checks.due("hours ahead of it and behind the last one are none", 2, y.presses(0));
        });
    }

    /** Two formes that need two hours each are put on presses at an hour of a week, and are DONE as soon as can be. */
    private static void dueAcross(int week, int hour, int due) {
        House x = printable(2, 2);
        int from = 70 * week + hour;
        while (x.hour() < from) {
            x.pass(Math.min(70, from - x.hour()));
        }
        x.print(0, 0, 0);
        x.print(1, 0, 2);
        Checks.due("DONE", 2, x.pass(12));
        Checks.due("from the hour " + from, due, x.presses(0));
    }

    private static void passTo(House x, int hour) {
        while (x.hour() < hour) {
            x.pass(Math.min(70, hour - x.hour()));
        }
    }

    private static boolean isHoliday(int hour) {
        return hour / 10 % 7 == 6;
    }

    /** The hour that is so many hours without holidays later, or earlier. */
    private static int worked(int from, int hours) {
        int hour = from;
        for (int left = Math.abs(hours); left > 0; left--) {
            do {
                hour += hours > 0 ? 1 : -1;
            } while (isHoliday(hour));
        }
        return hour;
    }

    /** Eight formes that need 104 hours are printed from an hour on; the last one is DONE in the last of so many. */
    private static void dueWeeks(int from, int hours) {
        House x = Shop.withBook(2, 4, 10, 1, 24);
        Checks.copy(x, 0, "a");
        Shop.setPages(x, 0, 0, 16);
        passTo(x, from);
        int[] order = {0, 2, 4, 1, 3, 5, 6};
        for (int at = 0; at < order.length; at++) {
            int press = at % 3;
            x.men(press, 2);
            x.lock(0, order[at], press);
            x.print(press, 0, order[at]);
            if (press == 2) {
                passTo(x, x.hour() + 24);
                for (int done = at - 2; done <= at; done++) {
                    x.putAway(0, order[done], 0);
                }
            }
        }
        int last = worked(from, isHoliday(from) ? hours : hours - 1);
        int begin = worked(last, -12);
        passTo(x, begin);
        x.lock(0, 7, 5);
        x.print(1, 0, 7);
        passTo(x, last + 1);
        Checks.due("the hour of the last one", last, x.forme(0, 7, 4));
        Checks.due("from " + from + " in " + hours, hours < 104 ? 2 : 1, x.presses(0));
    }

    // ---- promise 43

    private static House twoBooks(String copy, String other) {
        House x = new House();
        Checks.spelling(x, "do doe");
        x.hand(0, 0, 0);
        x.hand(1, 0, 0);
        for (int book = 0; book < 2; book++) {
            x.book(2, 1, 10, 2, 2);
            Checks.copy(x, book, book == 0 ? copy : other);
            for (int page = 0; page < 4; page++) {
                x.set(book, page, book);
            }
        }
        x.book(2, 1, 10, 6, 2);
        return x;
    }

    private static void follows() {
        Checks.holds(43, "no such book, of either", () -> {
            Checks.refusesBeyond(0, 2, Checks.INDEX, () -> twoBooks("a", "a"), (x, book) -> x.follows(book, 0));
            Checks.refusesBeyond(0, 2, Checks.INDEX, () -> twoBooks("a", "a"), (x, book) -> x.follows(0, book));
            Checks.takes(0, 1, () -> twoBooks("a", "a"), (x, book) -> Checks.due("one", 1, x.follows(0, book)));
            Checks.takes(0, 2, () -> twoBooks("a", "a"), (x, book) -> Checks.due("none", 0, x.follows(book, 2)));
        });
        Checks.holds(43, "the line of the same number of another one", () -> {
            House x = twoBooks("a/b/c/d/e", "a/b/c/d");
            Checks.due("four of five", 4, x.follows(0, 1));
            Checks.due("four of four", 4, x.follows(1, 0));
            Checks.due("all of itself", 5, x.follows(0, 0));
            Checks.due("a line later", 1, twoBooks("a/a/b/c/d/e/f/g", "a/b/c/d/e/f/g/h").follows(0, 1));
            Checks.due("eight lines", 8, twoBooks("a/b/c/d/e/f/g/h", "x a/b/x c/d/x e/f/x g/h").follows(0, 1));
            House y = Shop.withBook(2, 4, 10, 4, 2);
            for (int text = 0; text < 3; text++) {
                Checks.copy(y, 0, "a/b/c/d/e/f/g/h/i/j/k/l/m/n/o/p/q/r/s/t");
            }
            Shop.setPages(y, 0, 0, 16);
            Checks.due("60 lines", 60, y.follows(0, 0));
            Checks.due("a book without pages", 0, x.follows(2, 0));
            Checks.due("to a book without pages", 0, x.follows(0, 2));
        });
        Checks.holds(43, "the same as it was told there, or of the same spelling", () -> {
            Checks.due("the same word", 1, twoBooks("ab", "ab").follows(0, 1));
            Checks.due("another word", 0, twoBooks("ab", "abc").follows(0, 1));
            Checks.due("the same form", 1, twoBooks("do", "do").follows(0, 1));
            Checks.due("another form", 1, twoBooks("do", "doe").follows(0, 1));
            Checks.due("another form, the other way", 1, twoBooks("do", "doe").follows(1, 0));
            Checks.due("two words of no spelling", 0, twoBooks("a/b", "c/d").follows(0, 1));
            Checks.due("the last word alone", 0, twoBooks("ab c", "ab d").follows(0, 1));
        });
        Checks.holds(43, "through its pages that are set", () -> {
            House x = new House();
            x.hand(0, 0, 0);
            x.book(2, 1, 10, 1, 2);
            x.book(2, 1, 10, 6, 2);
            Checks.copy(x, 0, "abcd/abce/abcf/abcg");
            Checks.copy(x, 1, "abce/abcg");
            x.set(1, 0, 0);
            x.castOff(0, 50);
            x.set(0, 3, 0);
            Checks.due("page 3 alone", 0, x.follows(0, 1));
            x.set(0, 1, 0);
            Checks.due("the pages 1 and 3", 2, x.follows(0, 1));
            Checks.due("the other way", 2, x.follows(1, 0));
            x.set(0, 0, 0);
            Checks.due("with the page 0", 0, x.follows(0, 1));
        });
    }

    // ---- promise 44

    private static void account() {
        Checks.holds(44, "what: 0 to 4", () -> {
            Checks.takes(0, 4, () -> house(1), (x, what) -> x.account(what, 0));
            Checks.refusesBeyond(0, 4, Checks.ARGUMENT, () -> house(1), (x, what) -> x.account(what, 0));
        });
        Checks.holds(44, "there is no such one", () -> {
            int[] last = {3, 3, 2, 2, 3};
            for (int what = 0; what <= 4; what++) {
                int its = what;
                Checks.takes(0, last[what], () -> withAllHands(), (x, who) -> Checks.due("0", 0, x.account(its, who)));
                Checks.refusesBeyond(0, last[what], Checks.INDEX, () -> withAllHands(),
                        (x, who) -> x.account(its, who));
            }
            House x = new House();
            Checks.refuses(x, "hand 0 of none", Checks.INDEX, () -> x.account(0, 0));
            Checks.refuses(x, "hand 0 of none, put away", Checks.INDEX, () -> x.account(1, 0));
            x.hand(0, 0, 0);
            Checks.refuses(x, "hand 1 of one", Checks.INDEX, () -> x.account(0, 1));
        });
        Checks.holds(44, "IllegalArgumentException is named first", () -> {
            House x = new House();
            Checks.refuses(x, "account 5 of -1", Checks.ARGUMENT, () -> x.account(5, -1));
            Checks.refuses(x, "account -1 of 4", Checks.ARGUMENT, () -> x.account(-1, 4));
        });
        Checks.holds(44, "how many pieces a hand took for places", () -> {
            House x = Shop.withCopy("an/an");
            x.hand(0, 0, 0);
            x.cast(Checks.sort('u'), 2);
            x.set(0, 0, 1);
            Checks.due("a turned one is one, an empty place is none", 1, x.account(0, 1));
            x.set(0, 1, 1);
            Checks.due("both pages", 2, x.account(0, 1));
            Checks.due("the other hand", 0, x.account(0, 0));
            Checks.due("put away", 0, x.account(1, 1));
        });
        Checks.holds(44, "how many sheets a press printed, in how many hours it made ready or printed", () -> {
            House x = printable(5, 2);
            x.print(1, 0, 0);
            int[][] due = {{0, 1}, {2, 2}, {4, 3}, {5, 4}, {5, 4}};
            for (int[] both : due) {
                x.pass(1);
                Checks.due("sheets", both[0], x.account(2, 1));
                Checks.due("hours", both[1], x.account(3, 1));
                Checks.due("sheets of another press", 0, x.account(2, 0));
                Checks.due("hours of another press", 0, x.account(3, 2));
            }
            x.print(1, 0, 1);
            x.pass(4);
            Checks.due("sheets of two formes", 10, x.account(2, 1));
            Checks.due("hours of two formes", 8, x.account(3, 1));
        });
    }

    private static House withAllHands() {
        House x = new House();
        for (int hand = 0; hand < 4; hand++) {
            x.hand(0, 0, 0);
        }
        return x;
    }

    public static void main(String[] args) {
        shared();
        orders();
        ahead();
        hands();
        presses();
        follows();
        account();
        Checks.endOf(37, 44);
    }
}
