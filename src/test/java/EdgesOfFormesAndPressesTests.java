/** Each boundary case of promises 19 to 26, by the sentence that names it: formes, presses, hours, corrections. */
public final class EdgesOfFormesAndPressesTests {
    private EdgesOfFormesAndPressesTests() {
    }

    /** A house with four pieces of a and of b, and a book of one sheet whose pages are set, "ab" on the first one. */
    private static House house(int edition) {
        House x = Shop.withBook(2, 1, 10, 1, edition);
        Checks.castAll(x, "ab", 4);
        Checks.copy(x, 0, "ab");
        Shop.setAll(x, 0);
        return x;
    }

    /** The same, with both formes locked, in the skeletons 0 and 1. */
    private static House locked(int edition) {
        House x = house(edition);
        x.lock(0, 0, 0);
        x.lock(0, 1, 1);
        return x;
    }

    /** Brings the outer forme of a book to be so; it is OPEN, or LOCKED, and its pages are set. */
    private static void bringTo(House x, int how) {
        if (how >= Leadchapel.LOCKED && x.forme(0, 0, 0) == Leadchapel.OPEN) {
            x.lock(0, 0, 0);
        }
        if (how >= Leadchapel.ON) {
            x.print(0, 0, 0);
        }
        if (how >= Leadchapel.DONE) {
            x.pass(25);
        }
        if (how >= Leadchapel.GONE) {
            x.putAway(0, 0, 0);
        }
        Checks.due("how the forme is", how, x.forme(0, 0, 0));
    }

    private static void passTo(House x, int hour) {
        while (x.hour() < hour) {
            x.pass(Math.min(70, hour - x.hour()));
        }
    }

    // ---- promise 19

    private static void lock() {
        Checks.holds(19, "no such book or forme", () -> {
            Checks.refusesBeyond(0, 0, Checks.INDEX, () -> house(2), (x, book) -> x.lock(book, 0, 0));
            Checks.refusesBeyond(0, 1, Checks.INDEX, () -> house(2), (x, forme) -> x.lock(0, forme, 0));
            Checks.takes(0, 1, () -> house(2), (x, forme) -> x.lock(0, forme, 0));
            House x = Shop.withBook(2, 4, 10, 1, 2);
            Checks.copy(x, 0, "a");
            Shop.setPages(x, 0, 0, 16);
            Checks.refuses(x, "forme 8 of 8", Checks.INDEX, () -> x.lock(0, 8, 0));
            x.lock(0, 7, 0);
            Checks.due("forme 7", Leadchapel.LOCKED, x.forme(0, 7, 0));
        });
        Checks.holds(19, "skeleton: 0 to 5", () -> {
            Checks.takes(0, 5, () -> house(2), (x, skeleton) -> {
                x.lock(0, 1, skeleton);
                Checks.due("the skeleton", skeleton, x.forme(0, 1, 1));
                Checks.due("its last title", 8 * skeleton + 1, x.page(0, 2, 8));
            });
            Checks.refusesBeyond(0, 5, Checks.ARGUMENT, () -> house(2), (x, skeleton) -> x.lock(0, 0, skeleton));
        });
        Checks.holds(19, "it is not OPEN", () -> {
            for (int how = Leadchapel.LOCKED; how <= Leadchapel.GONE; how++) {
                House x = house(2);
                bringTo(x, how);
                Checks.refuses(x, "how " + how, Checks.STATE, () -> x.lock(0, 0, 2));
                Checks.refuses(x, "how " + how + ", in its own skeleton", Checks.STATE, () -> x.lock(0, 0, 0));
            }
        });
        Checks.holds(19, "a page of it is not set", () -> {
            House x = Shop.withBook(4, 1, 10, 1, 2);
            Checks.copy(x, 0, "a/b");
            x.castOff(0, 50);
            for (int page : new int[] {7, 3, 4, 0}) {
                Checks.refuses(x, "without page " + page, Checks.STATE, () -> x.lock(0, 0, 0));
                x.set(0, page, 0);
            }
            Checks.refuses(x, "without any page of it", Checks.STATE, () -> x.lock(0, 1, 0));
            x.lock(0, 0, 0);
            Checks.due("with all", Leadchapel.LOCKED, x.forme(0, 0, 0));
        });
        Checks.holds(19, "another forme has this skeleton", EdgesOfFormesAndPressesTests::skeletons);
        Checks.holds(19, "a call that throws an exception changes nothing", () -> {
            House x = house(2);
            x.book(2, 1, 10, 1, 2);
            Checks.copy(x, 1, "a");
            x.lock(0, 0, 0);
            Checks.refuses(x, "a LOCKED forme in skeleton 3", Checks.STATE, () -> x.lock(0, 0, 3));
            Checks.refuses(x, "a forme whose pages are not set in skeleton 3", Checks.STATE, () -> x.lock(1, 1, 3));
            x.lock(0, 1, 3);
            Checks.due("skeleton 3 is free", 3, x.forme(0, 1, 1));
        });
        Checks.holds(19, "IndexOutOfBoundsException first, then IllegalArgumentException", () -> {
            House x = locked(2);
            Checks.refuses(x, "forme 2, skeleton 6", Checks.INDEX, () -> x.lock(0, 2, 6));
            Checks.refuses(x, "book 1, skeleton -1", Checks.INDEX, () -> x.lock(1, 0, -1));
            Checks.refuses(x, "a LOCKED forme, skeleton 6", Checks.ARGUMENT, () -> x.lock(0, 0, 6));
            Checks.refuses(x, "a LOCKED forme, skeleton -1", Checks.ARGUMENT, () -> x.lock(0, 0, -1));
        });
    }

    private static void skeletons() {
        for (int how = Leadchapel.LOCKED; how <= Leadchapel.GONE; how++) {
            House x = house(2);
            x.book(2, 1, 10, 1, 2);
            Checks.copy(x, 1, "a");
            Shop.setAll(x, 1);
            bringTo(x, how);
            if (how < Leadchapel.GONE) {
                Checks.refuses(x, "of the same book, how " + how, Checks.STATE, () -> x.lock(0, 1, 0));
                Checks.refuses(x, "of another book, how " + how, Checks.STATE, () -> x.lock(1, 0, 0));
            } else {
                x.lock(1, 0, 0);
                Checks.due("it is free, then", 0, x.forme(1, 0, 1));
                Checks.due("and is told of both", 0, x.forme(0, 0, 1));
                Checks.refuses(x, "it is in use again", Checks.STATE, () -> x.lock(0, 1, 0));
            }
        }
        House x = Shop.withBook(2, 4, 10, 1, 2);
        Checks.copy(x, 0, "a");
        Shop.setPages(x, 0, 0, 16);
        for (int skeleton = 0; skeleton < 6; skeleton++) {
            x.lock(0, skeleton, skeleton);
        }
        for (int skeleton = 0; skeleton < 6; skeleton++) {
            int its = skeleton;
            Checks.refuses(x, "all six are in use, " + skeleton, Checks.STATE, () -> x.lock(0, 6, its));
        }
    }

    // ---- promise 20

    private static void print() {
        Checks.holds(20, "no such press, book or forme", () -> {
            Checks.refusesBeyond(0, 2, Checks.INDEX, () -> locked(2), (x, press) -> x.print(press, 0, 0));
            Checks.refusesBeyond(0, 0, Checks.INDEX, () -> locked(2), (x, book) -> x.print(0, book, 0));
            Checks.refusesBeyond(0, 1, Checks.INDEX, () -> locked(2), (x, forme) -> x.print(0, 0, forme));
            Checks.takes(0, 2, () -> locked(2), (x, press) -> x.print(press, 0, 0));
            Checks.takes(0, 1, () -> locked(2), (x, forme) -> x.print(0, 0, forme));
        });
        Checks.holds(20, "there is a forme on the press", () -> {
            for (int press = 0; press < 3; press++) {
                int its = press;
                House x = locked(2);
                x.book(2, 1, 10, 1, 2);
                Checks.copy(x, 1, "a");
                Shop.setAll(x, 1);
                x.lock(1, 0, 2);
                x.men(press, 2);
                x.print(press, 0, 0);
                Checks.refuses(x, "press " + press, Checks.STATE, () -> x.print(its, 1, 0));
                x.pass(1);
                Checks.refuses(x, "press " + press + ", made ready", Checks.STATE, () -> x.print(its, 1, 0));
                Checks.due("DONE", 1, x.pass(1));
                x.print(press, 1, 0);
                Checks.due("and off the press", Leadchapel.ON, x.forme(1, 0, 0));
            }
        });
        Checks.holds(20, "this one is not LOCKED", () -> {
            for (int how = Leadchapel.OPEN; how <= Leadchapel.GONE; how++) {
                House x = house(2);
                bringTo(x, how);
                if (how != Leadchapel.LOCKED) {
                    Checks.refuses(x, "how " + how, Checks.STATE, () -> x.print(1, 0, 0));
                }
            }
        });
        Checks.holds(20, "the other one of its sheet is ON a press", () -> {
            for (int forme = 0; forme < 2; forme++) {
                House x = locked(2);
                int other = 1 - forme;
                x.print(2, 0, forme);
                Checks.refuses(x, "the other one of forme " + forme, Checks.STATE, () -> x.print(1, 0, other));
                x.men(2, 2);
                x.pass(2);
                x.print(1, 0, other);
                Checks.due("when that is DONE", Leadchapel.ON, x.forme(0, other, 0));
            }
            House x = Shop.withBook(2, 2, 10, 1, 2);
            Checks.copy(x, 0, "a");
            Shop.setPages(x, 0, 0, 8);
            for (int forme = 0; forme < 4; forme++) {
                x.lock(0, forme, forme);
            }
            x.print(0, 0, 1);
            x.print(1, 0, 2);
            Checks.due("the forme of another sheet", Leadchapel.ON, x.forme(0, 2, 0));
            Checks.refuses(x, "the outer one of the first sheet", Checks.STATE, () -> x.print(2, 0, 0));
            Checks.refuses(x, "the inner one of the second sheet", Checks.STATE, () -> x.print(2, 0, 3));
            House y = Shop.withBook(2, 4, 10, 1, 2);
            Checks.copy(y, 0, "a");
            Shop.setPages(y, 0, 0, 16);
            y.lock(0, 6, 0);
            y.lock(0, 7, 1);
            y.print(0, 0, 7);
            Checks.refuses(y, "the outer one of the last sheet", Checks.STATE, () -> y.print(1, 0, 6));
        });
        Checks.holds(20, "a call that throws an exception changes nothing", () -> {
            House x = Shop.withBook(2, 1, 10, 1, 3);
            x.book(2, 1, 10, 1, 3);
            x.cast(0, 5);
            for (int book = 0; book < 2; book++) {
                Checks.copy(x, book, "a/a");
                Shop.setAll(x, book);
                x.lock(book, 0, 2 * book);
                x.lock(book, 1, 2 * book + 1);
            }
            x.men(0, 1);
            x.print(0, 1, 0);
            Checks.refuses(x, "the inner forme, on a press with a forme", Checks.STATE, () -> x.print(0, 0, 1));
            Checks.due("no heap was taken for it", 3, x.account(4, 0));
            x.pass(4);
            x.paper(2);
            x.print(0, 0, 0);
            x.pass(2);
            Checks.due("behind the first sheet", 1, x.correct(0, 0, 0));
            x.pass(2);
            Shop.printOut(x, 0, 1);
            x.bind(0);
            Checks.due("the stock that was told then", 4, x.mark(0, 0, 0));
            Checks.due("the outer forme was the first one", 0, x.state(0, 0, 0));
            Checks.due("the outer forme on the last sheet", 1, x.state(0, 2, 0));
        });
        Checks.holds(20, "IndexOutOfBoundsException is named first", () -> {
            House x = house(2);
            Checks.refuses(x, "an OPEN forme, press 3", Checks.INDEX, () -> x.print(3, 0, 0));
            x.lock(0, 0, 0);
            x.print(0, 0, 0);
            Checks.refuses(x, "forme 2, on a press with a forme", Checks.INDEX, () -> x.print(0, 0, 2));
            Checks.refuses(x, "book 1, on a press with a forme", Checks.INDEX, () -> x.print(0, 1, 0));
        });
    }

    // ---- promises 21 to 23

    private static void men() {
        Checks.holds(21, "no such press", () -> {
            Checks.refusesBeyond(0, 2, Checks.INDEX, House::new, (x, press) -> x.men(press, 1));
            Checks.takes(0, 2, House::new, (x, press) -> Checks.due("1 at first", 1, x.men(press, 1)));
        });
        Checks.holds(21, "many: 0 to 2", () -> {
            Checks.takes(0, 2, House::new, (x, many) -> {
                Checks.due("1 at first", 1, x.men(1, many));
                Checks.due("how many it had", many, x.men(1, 0));
                Checks.due("none", 0, x.men(1, 1));
                Checks.due("another press", 1, x.men(0, 1));
            });
            Checks.refusesBeyond(0, 2, Checks.ARGUMENT, House::new, (x, many) -> x.men(0, many));
        });
        Checks.holds(21, "IndexOutOfBoundsException is named first", () -> {
            House x = new House();
            Checks.refuses(x, "3 men at press 3", Checks.INDEX, () -> x.men(3, 3));
            Checks.refuses(x, "-1 men at press -1", Checks.INDEX, () -> x.men(-1, -1));
        });
    }

    private static void pass() {
        Checks.holds(22, "hours: 1 to 70", () -> {
            Checks.takes(1, 70, House::new, (x, hours) -> {
                Checks.due("formes", 0, x.pass(hours));
                Checks.due("hour", hours, x.hour());
            });
            Checks.refusesBeyond(1, 70, Checks.ARGUMENT, House::new, (x, hours) -> x.pass(hours));
        });
        Checks.holds(22, "if the hour would be above 5000", () -> {
            for (int had : new int[] {4930, 4931, 4999, 5000}) {
                House x = new House();
                passTo(x, had);
                int left = 5000 - had;
                if (left < 70) {
                    Checks.refuses(x, "one hour more, from " + had, Checks.STATE, () -> x.pass(left + 1));
                    Checks.refuses(x, "70 hours, from " + had, Checks.STATE, () -> x.pass(70));
                }
                if (left > 0) {
                    x.pass(left);
                }
                Checks.due("hour", 5000, x.hour());
                Checks.refuses(x, "no hours, at 5000", Checks.ARGUMENT, () -> x.pass(0));
                Checks.refuses(x, "71 hours, at 5000", Checks.ARGUMENT, () -> x.pass(71));
                Checks.refuses(x, "the most hours, at 5000", Checks.ARGUMENT, () -> x.pass(Integer.MAX_VALUE));
            }
        });
        Checks.holds(22, "the last of each 7 days is a holiday, in which nothing is done", () -> {
            for (int week = 0; week <= 70; week++) {
                dueHoliday(week);
            }
            House x = locked(24);
            x.men(0, 1);
            passTo(x, 4970);
            x.print(0, 0, 0);
            Checks.due("the last 30 hours are no holiday", 1, x.pass(30));
            Checks.due("the hours of the press", 25, x.account(3, 0));
        });
        Checks.holds(22, "as many sheets as it has men, or those that are left", () -> {
            for (int edition = 2; edition <= 24; edition++) {
                for (int men = 1; men <= 2; men++) {
                    duePrinted(edition, men);
                }
            }
        });
        Checks.holds(22, "each press with men and a forme", () -> {
            House x = locked(3);
            x.men(0, 0);
            x.print(0, 0, 0);
            x.pass(5);
            Checks.due("hours without men", 0, x.account(3, 0));
            Checks.due("hours without a forme", 0, x.account(3, 1));
            x.men(0, 1);
            x.pass(1);
            Checks.due("made ready, no sheet", 0, x.account(2, 0));
            x.men(0, 0);
            x.pass(5);
            Checks.due("hours", 1, x.account(3, 0));
            x.men(0, 2);
            Checks.due("2 and 1", 1, x.pass(2));
            Checks.due("sheets", 3, x.account(2, 0));
        });
        Checks.holds(22, "Returns how many formes are DONE by that", EdgesOfFormesAndPressesTests::doneTogether);
    }

    /** The hour 59 of a week is worked, and the hour 70; those between are not. */
    private static void dueHoliday(int week) {
        House x = locked(24);
        passTo(x, 70 * week + 59);
        x.print(0, 0, 0);
        Checks.due("the press ahead", 0, x.account(3, 0));
        int[] worked = {1, 1, 1, 1, 1, 1, 1, 1, 1, 1, 1, 2};
        for (int hour = 0; hour < worked.length; hour++) {
            x.pass(1);
            Checks.due("hours at " + (70 * week + 59 + hour), worked[hour], x.account(3, 0));
        }
    }

    private static void duePrinted(int edition, int men) {
        House x = locked(edition);
        x.men(0, men);
        x.print(0, 0, 0);
        x.pass(1);
        int hours = (edition + men - 1) / men;
        for (int hour = 1; hour <= hours; hour++) {
            Checks.due("DONE in hour " + hour, hour == hours ? 1 : 0, x.pass(1));
            Checks.due("sheets in hour " + hour, Math.min(hour * men, edition), x.forme(0, 0, 2));
        }
        Checks.due("how", Leadchapel.DONE, x.forme(0, 0, 0));
        Checks.due("in which hour", hours, x.forme(0, 0, 4));
        Checks.due("none more", 0, x.pass(2));
        Checks.due("sheets of the press", edition, x.account(2, 0));
        Checks.due("hours of the press", hours + 1, x.account(3, 0));
    }

    private static void doneTogether() {
        House x = new House();
        x.hand(0, 0, 0);
        for (int book = 0; book < 3; book++) {
            x.book(2, 1, 10, 1, 2);
            Checks.copy(x, book, "a");
            Shop.setAll(x, book);
            x.lock(book, 0, 2 * book);
            x.lock(book, 1, 2 * book + 1);
            x.men(book, 2);
            x.print(book, book, 0);
        }
        Checks.due("none is DONE", 0, x.pass(1));
        Checks.due("all three", 3, x.pass(1));
        for (int book = 0; book < 3; book++) {
            x.print(2 - book, book, 1);
        }
        Checks.due("all three, and no hour more", 3, x.pass(70));
    }

    private static void hour() {
        Checks.holds(23, "Hours are counted from 0", () -> {
            House x = new House();
            Checks.due("at first", 0, x.hour());
            x.pass(1);
            Checks.due("behind one", 1, x.hour());
            Checks.refuses(x, "no hours", Checks.ARGUMENT, () -> x.pass(0));
            x.pass(70);
            Checks.due("behind 71", 71, x.hour());
            passTo(x, 5000);
            Checks.due("the last one", 5000, x.hour());
        });
    }

    // ---- promise 24

    private static void forme() {
        Checks.holds(24, "no such book or forme", () -> {
            Checks.refusesBeyond(0, 0, Checks.INDEX, () -> house(2), (x, book) -> x.forme(book, 0, 0));
            Checks.refusesBeyond(0, 1, Checks.INDEX, () -> house(2), (x, forme) -> x.forme(0, forme, 0));
        });
        Checks.holds(24, "what: 0 to 4", () -> {
            Checks.takes(0, 4, () -> house(2), (x, what) -> x.forme(0, 0, what));
            Checks.refusesBeyond(0, 4, Checks.ARGUMENT, () -> house(2), (x, what) -> x.forme(0, 0, what));
        });
        Checks.holds(24, "IndexOutOfBoundsException is named first", () -> {
            House x = house(2);
            Checks.refuses(x, "forme 2, what 5", Checks.INDEX, () -> x.forme(0, 2, 5));
            Checks.refuses(x, "book 1, what -1", Checks.INDEX, () -> x.forme(1, 0, -1));
        });
        Checks.holds(24, "NONE as long as it is OPEN, NONE ahead of that", () -> {
            int[][] due = {{0, Leadchapel.NONE, 0, 1, Leadchapel.NONE}, {1, 0, 0, 1, Leadchapel.NONE},
                {2, 0, 0, 1, Leadchapel.NONE}, {3, 0, 2, 1, 1}, {4, 0, 2, 1, 1}};
            for (int how = Leadchapel.OPEN; how <= Leadchapel.GONE; how++) {
                House x = house(2);
                bringTo(x, how);
                for (int what = 0; what < 5; what++) {
                    Checks.due("how " + how + ", what " + what, due[how][what], x.forme(0, 0, what));
                }
                Checks.due("the other one", Leadchapel.OPEN, x.forme(0, 1, 0));
            }
        });
        Checks.holds(24, "the hour in which it was DONE", () -> {
            House x = locked(2);
            passTo(x, 4998);
            x.print(0, 0, 0);
            Checks.due("in the last hours", 1, x.pass(2));
            Checks.due("the last hour", 4999, x.forme(0, 0, 4));
        });
    }

    // ---- promise 25

    private static void correct() {
        Checks.holds(25, "no such book or page, it is not set, or there is no such place", () -> {
            Checks.refusesBeyond(0, 0, Checks.INDEX, () -> locked(2), (x, book) -> x.correct(book, 0, 0));
            Checks.refusesBeyond(0, 3, Checks.INDEX, () -> locked(2), (x, page) -> x.correct(0, page, 0));
            Checks.refusesBeyond(0, 1, Checks.INDEX, () -> locked(2), (x, place) -> x.correct(0, 0, place));
            Checks.takes(0, 1, () -> locked(2), (x, place) -> Checks.due("state", 0, x.correct(0, 0, place)));
            House x = locked(2);
            Checks.refuses(x, "a page without places", Checks.INDEX, () -> x.correct(0, 1, 0));
            House y = Shop.withCopy("ab");
            Checks.castAll(y, "ab", 2);
            Checks.refuses(y, "a page that is not set", Checks.INDEX, () -> y.correct(0, 0, 0));
        });
        Checks.holds(25, "its forme is neither LOCKED nor ON a press", () -> {
            for (int how = Leadchapel.OPEN; how <= Leadchapel.GONE; how++) {
                House x = house(2);
                bringTo(x, how);
                if (how == Leadchapel.LOCKED || how == Leadchapel.ON) {
                    Checks.due("how " + how, 0, x.correct(0, 0, 0));
                } else {
                    Checks.refuses(x, "how " + how, Checks.STATE, () -> x.correct(0, 0, 0));
                }
            }
        });
        Checks.holds(25, "the box of the wanted sort is empty", EdgesOfFormesAndPressesTests::correctFromBoxes);
        Checks.holds(25, "a call that throws an exception changes nothing", () -> {
            House x = Shop.withBook(2, 1, 10, 1, 4);
            Checks.copy(x, 0, "ab");
            x.cast(0, 2);
            Shop.setAll(x, 0);
            x.lock(0, 0, 0);
            x.men(0, 1);
            x.print(0, 0, 0);
            x.pass(2);
            Checks.refuses(x, "an empty box behind a sheet", Checks.STATE, () -> x.correct(0, 0, 1));
            Checks.due("states", 1, x.forme(0, 0, 3));
            x.pass(1);
            Checks.due("the first correction, behind the second sheet", 1, x.correct(0, 0, 0));
            Checks.refuses(x, "an empty box behind no sheet", Checks.STATE, () -> x.correct(0, 0, 1));
        });
        Checks.holds(25, "Corrects a place of a page", () -> {
            House x = Shop.withBook(2, 1, 10, 1, 2);
            x.book(2, 1, 10, 1, 2);
            x.book(2, 4, 10, 1, 2);
            x.cast(0, 40);
            Checks.copy(x, 2, "a/a/a/a/a/a/a/a");
            Checks.copy(x, 2, "a/a/a/a/a/a/a/a");
            Shop.setPages(x, 2, 0, 16);
            x.lock(2, 6, 0);
            x.lock(2, 7, 1);
            for (int page = 12; page < 16; page++) {
                int old = x.place(2, page, 0, 0);
                Checks.due("state", 0, x.correct(2, page, 0));
                Checks.due("another piece", 0, x.place(2, page, 0, 0) == old ? 1 : 0);
                Checks.due("where it is", 300 + page, x.piece(x.place(2, page, 0, 0), 2));
                Checks.due("where the old one is", 0, x.piece(old, 2));
                Checks.due("on top", old, x.box(0, 0));
            }
            Checks.refuses(x, "page 11, whose forme is OPEN", Checks.STATE, () -> x.correct(2, 11, 0));
        });
        Checks.holds(25, "IndexOutOfBoundsException is named first", () -> {
            House x = house(2);
            Checks.refuses(x, "place 2 in an OPEN forme", Checks.INDEX, () -> x.correct(0, 0, 2));
            Checks.refuses(x, "place -1 in an OPEN forme", Checks.INDEX, () -> x.correct(0, 0, -1));
            Checks.refuses(x, "an empty page in an OPEN forme", Checks.INDEX, () -> x.correct(0, 1, 0));
        });
        Checks.holds(25, "when sheets were printed in the last state begins another one, with the next sheet",
                EdgesOfFormesAndPressesTests::states);
        Checks.holds(25, "others are of the last one", () -> {
            House x = locked(4);
            x.men(0, 1);
            Checks.due("LOCKED", 0, x.correct(0, 0, 0));
            x.print(0, 0, 0);
            Checks.due("not ready", 0, x.correct(0, 0, 0));
            x.pass(1);
            Checks.due("no sheet", 0, x.correct(0, 0, 0));
            x.pass(1);
            Checks.due("one sheet", 1, x.correct(0, 0, 0));
            Checks.due("no sheet in this state", 1, x.correct(0, 0, 1));
            x.men(0, 0);
            x.pass(1);
            Checks.due("no sheet by no men", 1, x.correct(0, 0, 1));
            Checks.due("states", 2, x.forme(0, 0, 3));
            Checks.due("states of the other one", 1, x.forme(0, 1, 3));
        });
    }

    private static void correctFromBoxes() {
        House x = Shop.withCopy("an");
        x.cast(Checks.sort('u'), 2);
        Shop.setAll(x, 0);
        x.lock(0, 0, 0);
        Checks.refuses(x, "an empty place of an empty box", Checks.STATE, () -> x.correct(0, 0, 0));
        Checks.refuses(x, "a box that is only empty of its own", Checks.STATE, () -> x.correct(0, 0, 1));
        x.cast(0, 1);
        Checks.due("the last piece, for an empty place", 0, x.correct(0, 0, 0));
        Checks.due("the piece", 2, x.place(0, 0, 0, 0));
        Checks.due("the box is empty then", Leadchapel.NONE, x.box(0, 0));
        Checks.refuses(x, "the box is empty then", Checks.STATE, () -> x.correct(0, 0, 0));
        x.cast(0, 1);
        Checks.due("the last piece, for another one", 0, x.correct(0, 0, 0));
        Checks.due("the other one is in the box", 2, x.box(0, 0));
        Checks.due("back again", 0, x.correct(0, 0, 0));
        Checks.due("the first piece", 2, x.place(0, 0, 0, 0));
        x.cast(Checks.sort('n'), 1);
        Checks.due("a turned one", 1, x.place(0, 0, 1, 2));
        Checks.due("for a turned one", 0, x.correct(0, 0, 1));
        Checks.due("not turned", 0, x.place(0, 0, 1, 2));
        Checks.due("on top of the box of its sort", 1, x.box(Checks.sort('u'), 0));
        Checks.due("and under it", 0, x.box(Checks.sort('u'), 1));
    }

    /** As many states as an edition has sheets: a correction behind each sheet but the last one. */
    private static void states() {
        for (int edition = 2; edition <= 24; edition += 22) {
            House x = locked(edition);
            x.men(0, 1);
            x.print(0, 0, 0);
            x.pass(1);
            for (int sheet = 1; sheet < edition; sheet++) {
                x.pass(1);
                Checks.due("state behind sheet " + sheet, sheet, x.correct(0, 0, sheet % 2));
                Checks.due("states behind sheet " + sheet, sheet + 1, x.forme(0, 0, 3));
            }
            x.pass(1);
            Checks.due("DONE", Leadchapel.DONE, x.forme(0, 0, 0));
            Checks.due("states", edition, x.forme(0, 0, 3));
            Shop.printOut(x, 0, 1);
            x.bind(0);
            for (int copy = 0; copy < edition; copy++) {
                Checks.due("state of copy " + copy, copy, x.state(0, copy, 0));
                Checks.due("state of its other page", copy, x.state(0, copy, 3));
                Checks.due("state of the other forme", 0, x.state(0, copy, 1));
            }
        }
    }

    // ---- promise 26

    private static void putAway() {
        Checks.holds(26, "no such book, forme or hand", () -> {
            Checks.refusesBeyond(0, 0, Checks.INDEX, () -> done(), (x, book) -> x.putAway(book, 0, 0));
            Checks.refusesBeyond(0, 1, Checks.INDEX, () -> done(), (x, forme) -> x.putAway(0, forme, 0));
            Checks.refusesBeyond(0, 0, Checks.INDEX, () -> done(), (x, hand) -> x.putAway(0, 0, hand));
            House x = done();
            for (int hand = 1; hand < 4; hand++) {
                x.hand(0, 0, 0);
            }
            Checks.refuses(x, "hand 4", Checks.INDEX, () -> x.putAway(0, 0, 4));
            Checks.due("hand 3", 2, x.putAway(0, 0, 3));
            Checks.due("its account", 2, x.account(1, 3));
        });
        Checks.holds(26, "if it is not DONE", () -> {
            for (int how = Leadchapel.OPEN; how <= Leadchapel.GONE; how++) {
                House x = house(2);
                bringTo(x, how);
                if (how == Leadchapel.DONE) {
                    Checks.due("how " + how, 2, x.putAway(0, 0, 0));
                } else {
                    Checks.refuses(x, "how " + how, Checks.STATE, () -> x.putAway(0, 0, 0));
                    Checks.refuses(x, "by no hand, how " + how, Checks.INDEX, () -> x.putAway(0, 0, 1));
                }
            }
        });
        Checks.holds(26, "Returns how many pieces were put away", () -> {
            House x = Shop.withCopy("abc/abc");
            Checks.castAll(x, "ac", 1);
            Shop.setAll(x, 0);
            for (int forme = 0; forme < 2; forme++) {
                x.lock(0, forme, forme);
                Shop.printOut(x, 0, forme);
            }
            Checks.due("empty places are none", 2, x.putAway(0, 0, 0));
            Checks.due("a forme without pieces", 0, x.putAway(0, 1, 0));
            Checks.due("the account", 2, x.account(1, 0));
        });
        Checks.holds(26, "by rising pages and places, each on top of its box", EdgesOfFormesAndPressesTests::onTop);
        Checks.holds(26, "to put all its pieces away", () -> {
            House x = Shop.withCopy("n");
            x.cast(Checks.sort('u'), 1);
            Shop.setAll(x, 0);
            x.lock(0, 0, 0);
            Shop.printOut(x, 0, 0);
            Checks.due("turned", 1, x.place(0, 0, 0, 2));
            Checks.due("a turned one", 1, x.putAway(0, 0, 0));
            Checks.due("in the box of its sort", 0, x.box(Checks.sort('u'), 0));
            Checks.due("no piece is there", Leadchapel.NONE, x.place(0, 0, 0, 0));
            Checks.due("none that is turned", 0, x.place(0, 0, 0, 2));
            Checks.due("the wanted sort stays", Checks.sort('n'), x.place(0, 0, 0, 1));
        });
        Checks.holds(26, "a call that throws an exception changes nothing", () -> {
            House x = house(2);
            x.hand(0, 3, 0);
            x.lock(0, 0, 0);
            x.print(0, 0, 0);
            Checks.refuses(x, "ahead of the first piece", Checks.STATE, () -> x.putAway(0, 0, 1));
            x.pass(2);
            x.putAway(0, 0, 1);
            Checks.refuses(x, "ahead of the third piece", Checks.STATE, () -> x.putAway(0, 0, 1));
            Checks.due("the second piece is not the third one", 1, x.piece(7, 2));
            Checks.due("put away", 2, x.account(1, 1));
        });
    }

    private static House done() {
        House x = house(2);
        bringTo(x, Leadchapel.DONE);
        return x;
    }

    private static void onTop() {
        House x = Shop.withBook(2, 1, 10, 1, 2);
        x.cast(0, 6);
        Checks.copy(x, 0, "aa/bb/bb/aa");
        Shop.setAll(x, 0);
        Shop.bringThrough(x, 0, 0, 0);
        int[] due = {2, 3, 4, 5, 1, 0, Leadchapel.NONE};
        for (int place = 0; place < due.length; place++) {
            Checks.due("place " + place + " of the box", due[place], x.box(0, place));
        }
        Checks.due("where the first one is", 0, x.piece(5, 2));
        for (int what = 0; what < 3; what++) {
            Checks.due("a place then, " + what, what == 0 ? Leadchapel.NONE : 0, x.place(0, 0, 0, what));
        }
    }

    public static void main(String[] args) {
        lock();
        print();
        men();
        pass();
        hour();
        forme();
        correct();
        putAway();
        Checks.endOf(19, 26);
    }
}
