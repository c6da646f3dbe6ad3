/** Each boundary case of promises 27 to 36, by the sentence that names it: paper, heaps, copies, what is printed. */
public final class EdgesOfPaperAndCopiesTests {
    private EdgesOfPaperAndCopiesTests() {
    }

    /** A house with a book of sheets of two leaves, "ab" on its first page, all set, and six formes locked at most. */
    private static House locked(int sheets, int edition) {
        House x = Shop.withBook(2, sheets, 10, 1, edition);
        Checks.castAll(x, "ab", 9);
        Checks.copy(x, 0, "ab");
        Shop.setPages(x, 0, 0, 4 * sheets);
        for (int forme = 0; forme < 2 * sheets && forme < 6; forme++) {
            x.lock(0, forme, forme);
        }
        return x;
    }

    private static void printFormes(House x, int from, int to) {
        for (int forme = from; forme < to; forme++) {
            Shop.printOut(x, 0, forme);
        }
    }

    private static House bound(int sheets, int edition) {
        House x = locked(sheets, edition);
        printFormes(x, 0, 2 * sheets);
        x.bind(0);
        return x;
    }

    /** A book of one sheet that is not bound yet, with another state of its outer forme on each sheet of the heap. */
    private static House withStates(int edition, boolean isOuterFirst) {
        House x = locked(1, edition);
        if (!isOuterFirst) {
            Shop.printOut(x, 0, 1);
        }
        x.men(1, 1);
        x.print(1, 0, 0);
        x.pass(2);
        for (int sheet = 1; sheet < edition; sheet++) {
            x.correct(0, 0, 0);
            x.pass(1);
        }
        if (isOuterFirst) {
            Shop.printOut(x, 0, 1);
        }
        return x;
    }

    // ---- promise 27

    private static void paper() {
        Checks.holds(27, "stock: 0 to 3", () -> {
            Checks.takes(0, 3, House::new, (x, stock) -> Checks.due("taken", 0, x.paper(stock)));
            Checks.refusesBeyond(0, 3, Checks.INDEX, House::new, (x, stock) -> x.paper(stock));
        });
        Checks.holds(27, "from the stock that was told last, 0 at first", () -> {
            House x = locked(3, 3);
            Shop.printOut(x, 0, 0);
            Checks.due("0 at first", 3, x.account(4, 0));
            x.paper(1);
            x.paper(3);
            Checks.refuses(x, "stock 4", Checks.INDEX, () -> x.paper(4));
            Shop.printOut(x, 0, 2);
            Checks.due("the last one that was told", 3, x.account(4, 3));
            Checks.due("not one that was told ahead of it", 0, x.account(4, 1));
            Shop.printOut(x, 0, 4);
            Checks.due("and so for the next heap", 6, x.paper(3));
            Checks.due("how many sheets of another one", 3, x.paper(0));
        });
        Checks.holds(27, "For the first forme of a sheet that goes on a press a heap is taken", () -> {
            House x = locked(1, 24);
            Checks.due("LOCKED", 0, x.account(4, 0));
            x.print(0, 0, 1);
            Checks.due("ON a press", 24, x.account(4, 0));
            x.pass(13);
            x.paper(2);
            x.print(0, 0, 0);
            x.pass(13);
            Checks.due("the other one takes none", 0, x.account(4, 2));
            Checks.due("of neither", 24, x.account(4, 0));
            House y = locked(1, 2);
            y.men(0, 0);
            Checks.refuses(y, "forme 2", Checks.INDEX, () -> y.print(0, 0, 2));
            Checks.due("a call that was refused takes none", 0, y.account(4, 0));
        });
    }

    // ---- promises 28 and 29

    private static void lay() {
        Checks.holds(28, "no such book or sheet", () -> {
            Checks.refusesBeyond(0, 0, Checks.INDEX, () -> locked(2, 3), (x, book) -> x.lay(book, 0, 0));
            Checks.refusesBeyond(0, 1, Checks.INDEX, () -> locked(2, 3), (x, sheet) -> x.lay(0, sheet, 0));
            Checks.takes(0, 1, () -> locked(2, 3), (x, sheet) -> x.lay(0, sheet, 2));
            Checks.refusesBeyond(0, 3, Checks.INDEX, () -> Shop.withBook(2, 4, 10, 1, 2), (x, it) -> x.lay(0, it, 0));
            Checks.takes(0, 3, () -> Shop.withBook(2, 4, 10, 1, 2), (x, sheet) -> x.lay(0, sheet, 0));
        });
        Checks.holds(28, "turn: 0 up to, but without, the edition", () -> {
            for (int edition = 2; edition <= 24; edition++) {
                int its = edition;
                Checks.takes(0, edition - 1, () -> Shop.withBook(2, 1, 10, 1, its), (x, turn) -> x.lay(0, 0, turn));
                Checks.refusesBeyond(0, edition - 1, Checks.ARGUMENT, () -> Shop.withBook(2, 1, 10, 1, its),
                        (x, turn) -> x.lay(0, 0, turn));
            }
        });
        Checks.holds(28, "if the book is bound", () -> {
            House x = bound(1, 2);
            Checks.refuses(x, "turn 0", Checks.STATE, () -> x.lay(0, 0, 0));
            Checks.refuses(x, "turn 1", Checks.STATE, () -> x.lay(0, 0, 1));
            Checks.refuses(x, "turn 2", Checks.ARGUMENT, () -> x.lay(0, 0, 2));
            Checks.refuses(x, "turn -1", Checks.ARGUMENT, () -> x.lay(0, 0, -1));
            Checks.refuses(x, "sheet 1, turn 2", Checks.INDEX, () -> x.lay(0, 1, 2));
            Checks.refuses(x, "sheet -1, turn -1", Checks.INDEX, () -> x.lay(0, -1, -1));
        });
        Checks.holds(28, "a call that throws an exception changes nothing", () -> {
            House x = withStates(3, true);
            x.lay(0, 0, 1);
            Checks.refuses(x, "turn 3", Checks.ARGUMENT, () -> x.lay(0, 0, 3));
            Checks.refuses(x, "sheet 1", Checks.INDEX, () -> x.lay(0, 1, 2));
            x.bind(0);
            Checks.refuses(x, "turn 2, when it is bound", Checks.STATE, () -> x.lay(0, 0, 2));
            for (int copy = 0; copy < 3; copy++) {
                Checks.due("copy " + copy, (copy + 1) % 3, x.state(0, copy, 0));
            }
        });
        Checks.holds(28, "the number c and the turn of that heap together, modulo the edition",
                EdgesOfPaperAndCopiesTests::turns);
        Checks.holds(28, "the turn of that heap", () -> {
            House x = locked(3, 3);
            printFormes(x, 0, 6);
            x.lay(0, 2, 1);
            x.lay(0, 0, 2);
            x.bind(0);
            for (int copy = 0; copy < 3; copy++) {
                Checks.due("turn 2, copy " + copy, (copy + 2) % 3 % 2, x.mark(0, copy, 0));
                Checks.due("turn 0, copy " + copy, (3 + copy) % 2, x.mark(0, copy, 2));
                Checks.due("turn 1, copy " + copy, (6 + (copy + 1) % 3) % 2, x.mark(0, copy, 5));
            }
        });
        Checks.holds(28, "the turn of a heap, which is 0 at first", () -> {
            House x = withStates(3, true);
            x.bind(0);
            for (int copy = 0; copy < 3; copy++) {
                Checks.due("copy " + copy, copy, x.state(0, copy, 0));
            }
        });
    }

    private static void turns() {
        for (int edition = 2; edition <= 24; edition += 11) {
            for (int turn = 0; turn < edition; turn++) {
                for (boolean isOuterFirst : new boolean[] {true, false}) {
                    House x = withStates(edition, isOuterFirst);
                    x.lay(0, 0, (turn + 1) % edition);
                    x.lay(0, 0, turn);
                    Checks.due("copies", edition, x.bind(0));
                    for (int copy = 0; copy < edition; copy++) {
                        int sheet = (copy + turn) % edition;
                        int due = isOuterFirst ? sheet : edition - 1 - sheet;
                        Checks.due("turn " + turn + ", copy " + copy, due, x.state(0, copy, 3));
                    }
                }
            }
        }
    }

    private static void bind() {
        Checks.holds(29, "no such book", () -> Checks.refusesBeyond(0, 0, Checks.INDEX, () -> bound(1, 2),
                (x, book) -> x.bind(book)));
        Checks.holds(29, "Returns how many copies there are", () -> {
            for (int edition = 2; edition <= 24; edition++) {
                House x = locked(1, edition);
                printFormes(x, 0, 2);
                Checks.due("copies", edition, x.bind(0));
            }
        });
        Checks.holds(29, "if it is bound", () -> {
            House x = bound(1, 2);
            Checks.refuses(x, "once more", Checks.STATE, () -> x.bind(0));
            x.putAway(0, 0, 0);
            x.putAway(0, 1, 0);
            Checks.refuses(x, "when all is GONE", Checks.STATE, () -> x.bind(0));
        });
        Checks.holds(29, "a forme of it is neither DONE nor GONE", () -> {
            for (int missing = 0; missing < 4; missing++) {
                House x = locked(2, 2);
                printFormes(x, 0, missing);
                printFormes(x, missing + 1, 4);
                Checks.refuses(x, "forme " + missing + " is LOCKED", Checks.STATE, () -> x.bind(0));
                x.print(0, 0, missing);
                x.pass(1);
                Checks.refuses(x, "forme " + missing + " is ON", Checks.STATE, () -> x.bind(0));
                x.pass(1);
                x.putAway(0, 3 - missing, 0);
                Checks.due("DONE and GONE", 2, x.bind(0));
            }
            House x = Shop.withBook(2, 1, 10, 1, 2);
            Checks.refuses(x, "both are OPEN", Checks.STATE, () -> x.bind(0));
        });
    }

    // ---- promises 30 and 31

    private static void exchange() {
        Checks.holds(30, "no such book, copy or leaf", () -> {
            Checks.refusesBeyond(0, 0, Checks.INDEX, () -> bound(2, 3), (x, book) -> x.exchange(book, 0, 1, 0));
            Checks.refusesBeyond(0, 2, Checks.INDEX, () -> bound(2, 3), (x, copy) -> x.exchange(0, copy, 1, 0));
            Checks.refusesBeyond(0, 2, Checks.INDEX, () -> bound(2, 3), (x, copy) -> x.exchange(0, 1, copy, 0));
            Checks.refusesBeyond(0, 3, Checks.INDEX, () -> bound(2, 3), (x, leaf) -> x.exchange(0, 0, 1, leaf));
            Checks.takes(0, 3, () -> bound(2, 3), (x, leaf) -> {
                x.exchange(0, 0, 1, leaf);
                for (int other = 0; other < 4; other++) {
                    int twin = other == leaf ? 1 : 0;
                    Checks.due("the mark of leaf " + other, (other / 2 + twin) % 2, x.mark(0, 0, other));
                }
            });
        });
        Checks.holds(30, "if the book is not bound", () -> {
            House x = locked(1, 2);
            printFormes(x, 0, 2);
            Checks.refuses(x, "DONE", Checks.STATE, () -> x.exchange(0, 0, 1, 0));
            Checks.refuses(x, "a copy and itself", Checks.STATE, () -> x.exchange(0, 1, 1, 0));
            Checks.refuses(x, "copy 2", Checks.INDEX, () -> x.exchange(0, 0, 2, 0));
            Checks.refuses(x, "leaf -1", Checks.INDEX, () -> x.exchange(0, 0, 1, -1));
            Checks.refuses(x, "copy -1", Checks.INDEX, () -> x.exchange(0, -1, 1, 0));
        });
        Checks.holds(30, "Exchanges a leaf between two copies", () -> {
            House x = withStates(4, true);
            x.bind(0);
            x.exchange(0, 3, 0, 1);
            int[] last = {3, 1, 2, 0};
            for (int copy = 0; copy < 4; copy++) {
                Checks.due("leaf 0 of copy " + copy, copy, x.state(0, copy, 0));
                Checks.due("leaf 1 of copy " + copy, last[copy], x.state(0, copy, 3));
            }
            x.exchange(0, 2, 2, 1);
            Checks.due("a copy and itself", 2, x.state(0, 2, 3));
            x.exchange(0, 0, 3, 1);
            Checks.due("back again", 0, x.state(0, 0, 3));
        });
    }

    private static void cancel() {
        Checks.holds(31, "no such book, copy or leaf", () -> {
            Checks.refusesBeyond(0, 0, Checks.INDEX, () -> bound(2, 3), (x, book) -> x.cancel(book, 0, 0));
            Checks.refusesBeyond(0, 2, Checks.INDEX, () -> bound(2, 3), (x, copy) -> x.cancel(0, copy, 0));
            Checks.refusesBeyond(0, 3, Checks.INDEX, () -> bound(2, 3), (x, leaf) -> x.cancel(0, 0, leaf));
            Checks.takes(0, 3, () -> bound(2, 3), (x, leaf) -> {
                x.cancel(0, 0, leaf);
                for (int other = 0; other < 4; other++) {
                    Checks.due("leaf " + other, other == leaf ? Leadchapel.NONE : 0, x.state(0, 0, 2 * other));
                }
            });
        });
        Checks.holds(31, "if the book is not bound", () -> {
            House x = locked(1, 2);
            printFormes(x, 0, 2);
            Checks.refuses(x, "DONE", Checks.STATE, () -> x.cancel(0, 0, 0));
            Checks.refuses(x, "copy 2", Checks.INDEX, () -> x.cancel(0, 2, 0));
            Checks.refuses(x, "leaf 2", Checks.INDEX, () -> x.cancel(0, 0, 2));
        });
        Checks.holds(31, "in a copy and in all later ones", () -> {
            for (int copy = 0; copy < 24; copy++) {
                House x = bound(1, 24);
                Checks.due("cancelled", 24 - copy, x.cancel(0, copy, 1));
                for (int other = 0; other < 24; other++) {
                    Checks.due("copy " + other, other < copy ? 0 : Leadchapel.NONE, x.state(0, other, 3));
                }
                Checks.due("the other leaf", 0, x.state(0, 23, 0));
            }
        });
        Checks.holds(31, "and was not ahead of it", () -> {
            House x = bound(1, 5);
            Checks.due("from 3 on", 2, x.cancel(0, 3, 0));
            Checks.due("from 3 on, again", 0, x.cancel(0, 3, 0));
            Checks.due("the last one, again", 0, x.cancel(0, 4, 0));
            Checks.due("from 2 on", 1, x.cancel(0, 2, 0));
            Checks.due("another leaf", 5, x.cancel(0, 0, 1));
            x.exchange(0, 0, 4, 0);
            Checks.due("from 3 on, with one that was exchanged", 1, x.cancel(0, 3, 0));
            Checks.due("all that are left", 1, x.cancel(0, 1, 0));
            Checks.due("none is left", 0, x.cancel(0, 0, 0));
        });
    }

    // ---- promises 32 and 33

    private static void state() {
        Checks.holds(32, "no such book, copy or page", () -> {
            Checks.refusesBeyond(0, 0, Checks.INDEX, () -> bound(2, 3), (x, book) -> x.state(book, 0, 0));
            Checks.refusesBeyond(0, 2, Checks.INDEX, () -> bound(2, 3), (x, copy) -> x.state(0, copy, 0));
            Checks.refusesBeyond(0, 7, Checks.INDEX, () -> bound(2, 3), (x, page) -> x.state(0, 0, page));
            Checks.takes(0, 2, () -> bound(2, 3), (x, copy) -> Checks.due("state", 0, x.state(0, copy, 7)));
            Checks.takes(0, 7, () -> bound(2, 3), (x, page) -> Checks.due("state", 0, x.state(0, 2, page)));
        });
        Checks.holds(32, "if the book is not bound", () -> {
            House x = locked(1, 2);
            printFormes(x, 0, 2);
            Checks.refuses(x, "DONE", Checks.STATE, () -> x.state(0, 0, 0));
            Checks.refuses(x, "copy 2", Checks.INDEX, () -> x.state(0, 2, 0));
            Checks.refuses(x, "page 4", Checks.INDEX, () -> x.state(0, 0, 4));
            Checks.refuses(x, "page -1", Checks.INDEX, () -> x.state(0, 0, -1));
        });
        Checks.holds(32, "NONE if the leaf is cancelled", () -> {
            House x = bound(2, 2);
            x.cancel(0, 1, 1);
            int[] due = {0, 0, Leadchapel.NONE, Leadchapel.NONE, 0, 0, 0, 0};
            for (int page = 0; page < 8; page++) {
                Checks.due("page " + page, due[page], x.state(0, 1, page));
                Checks.due("page " + page + " of the copy ahead", 0, x.state(0, 0, page));
            }
        });
        Checks.holds(32, "Returns the state of its forme on that leaf", () -> {
            House x = Shop.withBook(2, 4, 10, 1, 4);
            x.cast(0, 40);
            Checks.copy(x, 0, "a/a/a/a/a/a/a/a");
            Checks.copy(x, 0, "a/a/a/a/a/a/a/a");
            Shop.setPages(x, 0, 0, 16);
            int[] page = {0, 1, 4, 5, 8, 9, 12, 13};
            for (int forme : new int[] {0, 3, 2, 1, 5, 6, 7, 4}) {
                x.lock(0, forme, 0);
                x.men(0, 1);
                x.print(0, 0, forme);
                x.pass(4);
                x.correct(0, page[forme], 0);
                x.pass(1);
                x.putAway(0, forme, 0);
            }
            x.bind(0);
            String last = "0110100110010110";
            for (int its = 0; its < 16; its++) {
                Checks.due("page " + its + " of the first copy", last.charAt(its) - '0', x.state(0, 0, its));
                Checks.due("page " + its + " of the last copy", '1' - last.charAt(its), x.state(0, 3, its));
            }
        });
        Checks.holds(32, "the other one is printed in the opposite order, as the heap was turned over", () -> {
            for (int edition = 2; edition <= 24; edition += 11) {
                House first = withStates(edition, true);
                House second = withStates(edition, false);
                first.bind(0);
                second.bind(0);
                for (int copy = 0; copy < edition; copy++) {
                    Checks.due("first, copy " + copy, copy, first.state(0, copy, 0));
                    Checks.due("second, copy " + copy, edition - 1 - copy, second.state(0, copy, 0));
                }
            }
        });
    }

    private static void mark() {
        Checks.holds(33, "no such book, copy or leaf", () -> {
            Checks.refusesBeyond(0, 0, Checks.INDEX, () -> bound(2, 3), (x, book) -> x.mark(book, 0, 0));
            Checks.refusesBeyond(0, 2, Checks.INDEX, () -> bound(2, 3), (x, copy) -> x.mark(0, copy, 0));
            Checks.refusesBeyond(0, 3, Checks.INDEX, () -> bound(2, 3), (x, leaf) -> x.mark(0, 0, leaf));
            Checks.takes(0, 3, () -> bound(2, 3), (x, leaf) -> x.mark(0, 2, leaf));
        });
        Checks.holds(33, "if the book is not bound", () -> {
            House x = locked(1, 2);
            printFormes(x, 0, 2);
            Checks.refuses(x, "DONE", Checks.STATE, () -> x.mark(0, 0, 0));
            Checks.refuses(x, "copy 2", Checks.INDEX, () -> x.mark(0, 2, 0));
            Checks.refuses(x, "leaf 2", Checks.INDEX, () -> x.mark(0, 0, 2));
        });
        Checks.holds(33, "the mark 2 * stock, or 1 more, if n is odd", () -> {
            for (int stock = 0; stock < 4; stock++) {
                House x = locked(3, 3);
                x.paper(stock);
                printFormes(x, 0, 6);
                x.bind(0);
                for (int copy = 0; copy < 3; copy++) {
                    for (int leaf = 0; leaf < 6; leaf++) {
                        int n = 3 * (leaf / 2) + copy;
                        Checks.due("mark of sheet " + n, 2 * stock + n % 2, x.mark(0, copy, leaf));
                    }
                }
            }
        });
        Checks.holds(33, "The n-th sheet that is taken of a stock, from 0", () -> {
            House x = Shop.withBook(2, 2, 10, 1, 3);
            Checks.copy(x, 0, "a");
            Shop.setPages(x, 0, 0, 8);
            for (int forme = 0; forme < 4; forme++) {
                x.lock(0, forme, forme);
            }
            x.paper(3);
            printFormes(x, 2, 3);
            x.paper(1);
            printFormes(x, 0, 1);
            x.paper(2);
            printFormes(x, 1, 2);
            printFormes(x, 3, 4);
            x.bind(0);
            int[] first = {2, 3, 2};
            int[] second = {6, 7, 6};
            for (int copy = 0; copy < 3; copy++) {
                Checks.due("the first sheet, which was the second heap", first[copy], x.mark(0, copy, 0));
                Checks.due("the second sheet, which was the first heap", second[copy], x.mark(0, copy, 3));
            }
        });
        Checks.holds(33, "NONE if the leaf is cancelled", () -> {
            House x = bound(1, 2);
            x.cancel(0, 1, 1);
            Checks.due("the cancelled one", Leadchapel.NONE, x.mark(0, 1, 1));
            Checks.due("the other leaf", 1, x.mark(0, 1, 0));
            Checks.due("the copy ahead", 0, x.mark(0, 0, 1));
            x.exchange(0, 0, 1, 1);
            Checks.due("a new leaf in another copy", Leadchapel.NONE, x.mark(0, 0, 1));
            Checks.due("the sheet of another copy", 0, x.mark(0, 1, 1));
        });
    }

    // ---- promise 34

    private static void character() {
        Checks.holds(34, "no such book, copy or page, or line or place is below 0", () -> {
            Checks.refusesBeyond(0, 0, Checks.INDEX, () -> bound(2, 3), (x, book) -> x.character(book, 0, 0, 0, 0));
            Checks.refusesBeyond(0, 2, Checks.INDEX, () -> bound(2, 3), (x, copy) -> x.character(0, copy, 0, 0, 0));
            Checks.refusesBeyond(0, 7, Checks.INDEX, () -> bound(2, 3), (x, page) -> x.character(0, 0, page, 0, 0));
            Checks.takes(0, 7, () -> bound(2, 3), (x, page) -> x.character(0, 2, page, 0, 0));
            House x = bound(1, 2);
            for (int below : new int[] {-1, Integer.MIN_VALUE}) {
                Checks.refuses(x, "line " + below, Checks.INDEX, () -> x.character(0, 0, 0, below, 0));
                Checks.refuses(x, "place " + below, Checks.INDEX, () -> x.character(0, 0, 0, 0, below));
                Checks.refuses(x, "line " + below + " of an empty page", Checks.INDEX,
                        () -> x.character(0, 0, 1, below, 0));
                Checks.refuses(x, "place " + below + " of no line", Checks.INDEX,
                        () -> x.character(0, 0, 0, 9, below));
            }
        });
        Checks.holds(34, "if the book is not bound", () -> {
            House x = locked(1, 2);
            printFormes(x, 0, 2);
            Checks.refuses(x, "DONE", Checks.STATE, () -> x.character(0, 0, 0, 0, 0));
            Checks.refuses(x, "copy 2", Checks.INDEX, () -> x.character(0, 2, 0, 0, 0));
            Checks.refuses(x, "page 4", Checks.INDEX, () -> x.character(0, 0, 4, 0, 0));
            Checks.refuses(x, "line -1", Checks.INDEX, () -> x.character(0, 0, 0, -1, 0));
            Checks.refuses(x, "place -1", Checks.INDEX, () -> x.character(0, 0, 0, 0, -1));
        });
        Checks.holds(34, "NONE if there are not so many lines with words, or characters", () -> {
            House x = Shop.bound("ab c/d", 2);
            int[] due = {'.', '.', ' ', '.', Leadchapel.NONE, Leadchapel.NONE};
            for (int place = 0; place < due.length; place++) {
                Checks.due("place " + place, due[place], x.character(0, 0, 0, 0, place));
            }
            Checks.due("the greatest place", Leadchapel.NONE, x.character(0, 0, 0, 0, Integer.MAX_VALUE));
            Checks.due("line 1 of 1", Leadchapel.NONE, x.character(0, 0, 0, 1, 0));
            Checks.due("the greatest line", Leadchapel.NONE, x.character(0, 0, 0, Integer.MAX_VALUE, 0));
            Checks.due("a page without words", Leadchapel.NONE, x.character(0, 0, 2, 0, 0));
            House full = Shop.withBook(2, 1, 24, 6, 2);
            for (int line = 0; line < 6; line++) {
                Checks.copy(full, 0, "abcdefgh abcdefgh ijklmn");
            }
            Shop.setAll(full, 0);
            full.lock(0, 0, 0);
            full.lock(0, 1, 1);
            printFormes(full, 0, 2);
            full.bind(0);
            full.cancel(0, 0, 0);
            for (int line = 0; line < 6; line++) {
                Checks.due("the last character of line " + line, 'n', full.character(0, 1, 0, line, 23));
                Checks.due("none behind line " + line, Leadchapel.NONE, full.character(0, 1, 0, line, 24));
            }
            Checks.due("no line below it", Leadchapel.NONE, full.character(0, 1, 0, 6, 0));
        });
        Checks.holds(34, "of its words what their places print, of all 60", () -> {
            House x = Shop.withBook(2, 1, 24, 6, 2);
            Shop.copyMany(x, 0, 'a', 60);
            Shop.setAll(x, 0);
            x.lock(0, 0, 0);
            x.lock(0, 1, 1);
            printFormes(x, 0, 2);
            x.bind(0);
            x.cancel(0, 0, 0);
            Checks.due("words", 60, x.page(0, 0, 2));
            Checks.dueText("the first line", "a  a a a a a a a a a a a", Checks.printed(x, 0, 0, 0, 0));
            Checks.dueText("the last line", "a a a a a a a a", Checks.printed(x, 0, 0, 0, 5));
        });
        Checks.holds(34, "with as many blanks as there are units between each two of them", () -> {
            House x = Shop.withBook(2, 1, 10, 1, 2);
            Checks.castAll(x, "abcde", 9);
            Checks.copy(x, 0, "ab c d eeeeeee/ab c d/a");
            Shop.setAll(x, 0);
            x.lock(0, 0, 0);
            x.lock(0, 1, 1);
            printFormes(x, 0, 2);
            x.bind(0);
            Checks.dueText("filled out", "ab   c   d", Checks.printed(x, 0, 0, 0, 0));
            Checks.dueText("not filled out", "ab c d", Checks.printed(x, 0, 0, 2, 0));
        });
        Checks.holds(34, "An empty place prints a dot", () -> {
            House x = Shop.withCopy("aba");
            x.cast(0, 1);
            Shop.setAll(x, 0);
            x.lock(0, 0, 0);
            x.lock(0, 1, 1);
            printFormes(x, 0, 2);
            x.putAway(0, 0, 0);
            x.bind(0);
            Checks.dueText("one piece for three places", "a..", Checks.printed(x, 0, 0, 0, 0));
        });
        Checks.holds(34, "prints the letter, or both letters, of its sort", () -> {
            for (int sort = 0; sort < 28; sort++) {
                duePrinted(sort, sort, false);
                duePrinted(sort, (sort + 1) % 28, false);
            }
        });
        Checks.holds(34, "but a turned one that is of the sort of the box from which it was taken prints the letter "
                + "that was wanted", () -> {
            for (char from : "nubqdp".toCharArray()) {
                duePrinted(Checks.sort(from), Checks.sort(from), true);
            }
            for (char from : "mtapco".toCharArray()) {
                duePrinted(Checks.sort(from), Checks.sort(from) + 1, true);
            }
        });
        Checks.holds(34, "of its sort, in a place that is corrected, too", EdgesOfPaperAndCopiesTests::printedWrongly);
        Checks.holds(34, "as it is printed in a copy", EdgesOfPaperAndCopiesTests::printedStates);
        Checks.holds(34, "as it is printed in a copy, by states of many sheets", () -> {
            House x = Shop.withBook(2, 1, 10, 1, 9);
            Checks.castAll(x, "abc", 2);
            Checks.copy(x, 0, "abc zzz");
            Shop.setAll(x, 0);
            x.lock(0, 0, 0);
            x.lock(0, 1, 1);
            x.men(0, 1);
            x.print(0, 0, 0);
            x.pass(3);
            x.cast(25, 9);
            Checks.due("behind two sheets", 1, x.correct(0, 0, 4));
            x.pass(3);
            Checks.due("behind five sheets", 2, x.correct(0, 0, 3));
            x.pass(2);
            Checks.due("behind seven sheets", 3, x.correct(0, 0, 5));
            x.pass(2);
            Shop.printOut(x, 0, 1);
            x.bind(0);
            String[] due = {"abc ...", "abc ...", "abc .z.", "abc .z.", "abc .z.", "abc zz.", "abc zz.", "abc zzz",
                "abc zzz"};
            for (int copy = 0; copy < due.length; copy++) {
                Checks.dueText("copy " + copy, due[copy], Checks.printed(x, 0, copy, 0, 0));
            }
        });
        Checks.holds(34, "with all places as they were wanted", () -> {
            House x = Shop.withBook(2, 1, 10, 1, 2);
            x.cast(26, 1);
            x.cast(Checks.sort('u'), 1);
            Checks.copy(x, 0, "fi nn fl");
            Shop.setAll(x, 0);
            x.lock(0, 0, 0);
            x.lock(0, 1, 1);
            printFormes(x, 0, 2);
            x.bind(0);
            x.cancel(0, 1, 0);
            Checks.dueText("as it was printed", "fi n. ..", Checks.printed(x, 0, 0, 0, 0));
            Checks.dueText("the new leaf", "fi nn fl", Checks.printed(x, 0, 1, 0, 0));
        });
    }

    /** A piece that was put into a box prints its own letters, or when it is turned the one that was wanted. */
    private static void duePrinted(int sort, int box, boolean isTurned) {
        House x = new House();
        x.hand(0, sort == box ? 0 : 1, 0);
        x.men(0, 2);
        x.cast(sort, 1);
        x.book(2, 1, 10, 1, 2);
        x.book(2, 1, 10, 1, 2);
        Checks.copy(x, 0, lettersOf(sort));
        Shop.setAll(x, 0);
        Shop.bringThrough(x, 0, 0, 0);
        Checks.due("the box of a piece of " + lettersOf(sort), box, x.piece(0, 2));
        String wanted = isTurned ? turnedFor((char) ('a' + box)) : lettersOf(box);
        Checks.copy(x, 1, wanted);
        Checks.due("no place is empty", 0, x.set(1, 0, 0));
        Checks.due("turned", isTurned ? 1 : 0, x.place(1, 0, 0, 2));
        for (int page = 1; page < 4; page++) {
            x.set(1, page, 0);
        }
        for (int forme = 0; forme < 2; forme++) {
            x.lock(1, forme, forme);
            Shop.printOut(x, 1, forme);
        }
        x.bind(1);
        String due = isTurned && sort == box ? wanted : lettersOf(sort);
        Checks.dueText("for " + wanted + " of box " + lettersOf(box), due, Checks.printed(x, 1, 1, 0, 0));
    }

    /** A piece of m in the box of n, an o in that of p, and a b in that of c are taken for corrections. */
    private static void printedWrongly() {
        House x = Shop.withBook(2, 1, 10, 1, 2);
        x.hand(0, 1, 0);
        x.book(2, 1, 10, 1, 2);
        Checks.castAll(x, "mobu", 1);
        Checks.copy(x, 0, "mob");
        Checks.copy(x, 1, "npc");
        Shop.setAll(x, 0);
        Shop.setAll(x, 1);
        Checks.due("a turned one for n", 1, x.place(1, 0, 0, 2));
        Checks.due("none for p", Leadchapel.NONE, x.place(1, 0, 1, 0));
        Shop.bringThrough(x, 0, 0, 1);
        x.lock(1, 0, 0);
        x.lock(1, 1, 1);
        for (int place = 0; place < 3; place++) {
            Checks.due("state", 0, x.correct(1, 0, place));
            Checks.due("the piece for place " + place, place, x.place(1, 0, place, 0));
            Checks.due("turned", 0, x.place(1, 0, place, 2));
        }
        Shop.printOut(x, 1, 0);
        Shop.printOut(x, 1, 1);
        x.bind(1);
        Checks.dueText("their own letters", "mob", Checks.printed(x, 1, 0, 0, 0));
    }

    /** Dots that are corrected, one behind each sheet, on both pages of the outer forme. */
    private static void printedStates() {
        House x = Shop.withBook(2, 1, 10, 1, 5);
        Checks.copy(x, 0, "ab/x/x/cd");
        Shop.setAll(x, 0);
        x.lock(0, 0, 0);
        x.lock(0, 1, 1);
        x.men(0, 1);
        x.print(0, 0, 0);
        x.pass(1);
        int[][] places = {{0, 0}, {3, 1}, {0, 1}, {3, 0}};
        String letters = "adbc";
        for (int sheet = 0; sheet < 4; sheet++) {
            x.pass(1);
            x.cast(Checks.sort(letters.charAt(sheet)), 1);
            Checks.due("state", sheet + 1, x.correct(0, places[sheet][0], places[sheet][1]));
        }
        x.pass(1);
        Shop.printOut(x, 0, 1);
        x.putAway(0, 0, 0);
        x.bind(0);
        String[] first = {"..", "a.", "a.", "ab", "ab"};
        String[] last = {"..", "..", ".d", ".d", "cd"};
        for (int copy = 0; copy < 5; copy++) {
            Checks.dueText("page 0 of copy " + copy, first[copy], Checks.printed(x, 0, copy, 0, 0));
            Checks.dueText("page 3 of copy " + copy, last[copy], Checks.printed(x, 0, copy, 3, 0));
            Checks.dueText("page 1 of copy " + copy, ".", Checks.printed(x, 0, copy, 1, 0));
        }
        x.exchange(0, 0, 3, 1);
        Checks.dueText("an exchanged leaf", ".d", Checks.printed(x, 0, 0, 3, 0));
        Checks.dueText("the other leaf", "..", Checks.printed(x, 0, 0, 0, 0));
    }

    private static String turnedFor(char box) {
        return String.valueOf("unqbpd".charAt("nubqdp".indexOf(box)));
    }

    private static String lettersOf(int sort) {
        return sort == 26 ? "fi" : sort == 27 ? "fl" : String.valueOf((char) ('a' + sort));
    }

    // ---- promises 35 and 36

    private static void alike() {
        Checks.holds(35, "no such book or copy", () -> {
            Checks.refusesBeyond(0, 0, Checks.INDEX, () -> bound(1, 3), (x, book) -> x.alike(book, 0));
            Checks.refusesBeyond(0, 2, Checks.INDEX, () -> bound(1, 3), (x, copy) -> x.alike(0, copy));
            Checks.takes(0, 2, () -> bound(1, 3), (x, copy) -> Checks.due("alike", 3, x.alike(0, copy)));
        });
        Checks.holds(35, "if the book is not bound", () -> {
            House x = locked(1, 2);
            printFormes(x, 0, 2);
            Checks.refuses(x, "DONE", Checks.STATE, () -> x.alike(0, 0));
            Checks.refuses(x, "copy 2", Checks.INDEX, () -> x.alike(0, 2));
            Checks.refuses(x, "copy -1", Checks.INDEX, () -> x.alike(0, -1));
        });
        Checks.holds(35, "the same state as a copy on each page, this one counted", () -> {
            Checks.due("all of 24", 24, bound(1, 24).alike(0, 0));
            House x = withStates(24, true);
            x.bind(0);
            for (int copy = 0; copy < 24; copy++) {
                Checks.due("itself alone", 1, x.alike(0, copy));
            }
            x.exchange(0, 0, 23, 0);
            x.exchange(0, 0, 23, 1);
            Checks.due("with both leaves exchanged", 1, x.alike(0, 0));
            House two = locked(1, 4);
            two.men(1, 1);
            two.print(1, 0, 0);
            two.pass(3);
            two.correct(0, 0, 0);
            two.pass(2);
            Shop.printOut(two, 0, 1);
            two.bind(0);
            Checks.due("two of each state", 2, two.alike(0, 0));
            two.exchange(0, 0, 2, 0);
            Checks.due("with another first leaf", 1, two.alike(0, 0));
            Checks.due("without it", 1, two.alike(0, 1));
            two.exchange(0, 1, 3, 1);
            Checks.due("with the other last leaf", 2, two.alike(0, 3));
            Checks.due("with the first leaf, or the last one", 2, two.alike(0, 2));
            House y = bound(1, 4);
            y.cancel(0, 2, 1);
            Checks.due("with a cancelled leaf", 2, y.alike(0, 3));
            Checks.due("without it", 2, y.alike(0, 0));
            y.cancel(0, 3, 0);
            Checks.due("with both", 1, y.alike(0, 3));
            Checks.due("with one of them", 1, y.alike(0, 2));
        });
    }

    private static void madeUp() {
        Checks.holds(36, "no such book or copy", () -> {
            Checks.refusesBeyond(0, 0, Checks.INDEX, () -> bound(1, 3), (x, book) -> x.madeUp(book, 0));
            Checks.refusesBeyond(0, 2, Checks.INDEX, () -> bound(1, 3), (x, copy) -> x.madeUp(0, copy));
            Checks.takes(0, 2, () -> bound(1, 3), (x, copy) -> Checks.due("made up", 0, x.madeUp(0, copy)));
        });
        Checks.holds(36, "if the book is not bound", () -> {
            House x = locked(1, 2);
            printFormes(x, 0, 2);
            Checks.refuses(x, "DONE", Checks.STATE, () -> x.madeUp(0, 0));
            Checks.refuses(x, "copy 2", Checks.INDEX, () -> x.madeUp(0, 2));
            Checks.refuses(x, "copy -1", Checks.INDEX, () -> x.madeUp(0, -1));
        });
        Checks.holds(36, "leaves of more than one sheet of the heap, those that are cancelled aside", () -> {
            House x = bound(3, 3);
            for (int sheet = 0; sheet < 3; sheet++) {
                Checks.due("ahead of sheet " + sheet, sheet, x.madeUp(0, 0));
                x.exchange(0, 0, 1, 2 * sheet + 1);
                Checks.due("with sheet " + sheet, sheet + 1, x.madeUp(0, 0));
                Checks.due("in the other copy", sheet + 1, x.madeUp(0, 1));
            }
            Checks.due("in a third copy", 0, x.madeUp(0, 2));
            x.exchange(0, 0, 1, 0);
            Checks.due("both leaves of one other sheet", 2, x.madeUp(0, 0));
            x.cancel(0, 1, 2);
            Checks.due("one leaf cancelled, and one left", 1, x.madeUp(0, 1));
            Checks.due("the copy ahead", 2, x.madeUp(0, 0));
            x.cancel(0, 0, 3);
            Checks.due("one leaf left", 1, x.madeUp(0, 0));
            Checks.due("none left", 1, x.madeUp(0, 1));
        });
        Checks.holds(36, "of more than one sheet, of eight leaves", () -> {
            for (int leaf = 0; leaf < 8; leaf++) {
                House x = Shop.withBook(8, 1, 10, 1, 2);
                Checks.copy(x, 0, "a");
                Shop.setPages(x, 0, 0, 16);
                x.lock(0, 0, 0);
                x.lock(0, 1, 1);
                printFormes(x, 0, 2);
                x.bind(0);
                x.exchange(0, 0, 1, leaf);
                Checks.due("leaf " + leaf, 1, x.madeUp(0, 0));
                x.cancel(0, 0, leaf);
                Checks.due("leaf " + leaf + " cancelled", 0, x.madeUp(0, 0));
            }
        });
    }

    public static void main(String[] args) {
        paper();
        lay();
        bind();
        exchange();
        cancel();
        state();
        mark();
        character();
        alike();
        madeUp();
        Checks.endOf(27, 36);
    }
}
