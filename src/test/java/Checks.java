import java.util.ArrayList;
import java.util.HashSet;
import java.util.List;
import java.util.Map;
import java.util.Set;
import java.util.function.Consumer;
import java.util.function.IntUnaryOperator;
import java.util.function.Supplier;
import java.util.function.ToIntFunction;

/** What the promise tests share: answers that are due, exceptions that are due, and a house told whole. */
final class Checks {
    static final Class<IllegalArgumentException> ARGUMENT = IllegalArgumentException.class;
    static final Class<IllegalStateException> STATE = IllegalStateException.class;
    static final Class<IndexOutOfBoundsException> INDEX = IndexOutOfBoundsException.class;

    private static final int ABSENT = -99;
    private static final int MOST_FUTURE = 110;
    private static final Set<Integer> PROMISES = new HashSet<>();

    private static String sentence = "";
    private static int checked;
    private static int wrong;
    private static House lastTold;
    private static int callsLastTold;
    private static String told;

    private Checks() {
    }

    /** A test of its own for a sentence of the document, told by the number of the promise and its words. */
    static void holds(int promise, String words, Runnable test) {
        sentence = "promise " + promise + ", \"" + words + "\": ";
        PROMISES.add(promise);
        int checkedAhead = checked;
        try {
            test.run();
        } catch (RuntimeException e) {
            fail("threw " + e);
        }
        if (checked == checkedAhead) {
            fail("nothing is checked");
        }
        sentence = "";
    }

    private static void fail(String what) {
        wrong++;
        System.out.println(sentence + what);
    }

    static void due(String what, long want, long got) {
        checked++;
        if (want != got) {
            fail(what + " answered " + got + ", due is " + want);
        }
    }

    /** The call throws just this exception, and the house is as it was then. */
    static void refuses(House house, String what, Class<? extends RuntimeException> due, Runnable call) {
        checked++;
        Class<?> thrown = null;
        try {
            call.run();
        } catch (RuntimeException e) {
            thrown = e.getClass();
        }
        if (thrown != due) {
            fail(what + " threw " + thrown + ", due is " + due);
        } else if (!toldAnew(house).equals(told(house::againRefused))) {
            fail(what + " was refused, but changed something");
        }
    }

    /** The values just beyond a range, and the least and the greatest one. */
    static int[] beyond(int least, int most) {
        return new int[] {Integer.MIN_VALUE, least - 1, most + 1, Integer.MAX_VALUE};
    }

    /** Each value beyond the range is refused by a house made for it. */
    static void refusesBeyond(int least, int most, Class<? extends RuntimeException> due, Supplier<House> made,
            Taking call) {
        House house = made.get();
        for (int value : beyond(least, most)) {
            refuses(house, "the value " + value, due, () -> call.give(house, value));
        }
    }

    /** Each value of the range is taken by a house made for it. */
    static void takes(int least, int most, Supplier<House> made, Taking call) {
        for (int value = least; value <= most; value++) {
            checked++;
            try {
                call.give(made.get(), value);
            } catch (RuntimeException e) {
                fail("the value " + value + " threw " + e);
            }
        }
    }

    /** A call with a value in it. */
    interface Taking {
        void give(House house, int value);
    }

    /** Each promise of the range has a test of its own. */
    static void endOf(int first, int last) {
        for (int promise = first; promise <= last; promise++) {
            if (!PROMISES.contains(promise)) {
                fail("promise " + promise + " has no test");
            }
        }
        end();
    }

    static void end() {
        System.out.println((checked - wrong) + " of " + checked + " checks hold");
        if (wrong > 0) {
            System.exit(1);
        }
    }

    /** Types a text of any length. */
    static int type(House house, String text) {
        int typed = 0;
        for (int from = 0; from < text.length(); from += 8) {
            String part = text.substring(from, Math.min(from + 8, text.length()));
            typed = house.type(packed(part), part.length());
        }
        return typed;
    }

    static long packed(String part) {
        long characters = 0;
        for (int i = 0; i < part.length(); i++) {
            characters |= (long) (part.charAt(i) & 255) << 8 * i;
        }
        return characters;
    }

    static int copy(House house, int book, String text) {
        type(house, text);
        return house.copy(book);
    }

    static int spelling(House house, String pair) {
        type(house, pair);
        return house.spelling();
    }

    static int sort(char letter) {
        return letter - 'a';
    }

    /** Casts so many pieces of each letter. */
    static void castAll(House house, String letters, int many) {
        for (char letter : letters.toCharArray()) {
            house.cast(sort(letter), many);
        }
    }

    /** A line as it is printed in a copy. */
    static String printed(House house, int book, int copy, int page, int line) {
        return printed(call -> call.applyAsInt(house), book, copy, page, line);
    }

    private static String printed(ToIntFunction<ToIntFunction<House>> ask, int book, int copy, int page, int line) {
        StringBuilder text = new StringBuilder();
        for (int at = 0; at < 64; at++) {
            int place = at;
            int sign = ask.applyAsInt(x -> x.character(book, copy, page, line, place));
            if (sign == Leadchapel.NONE) {
                break;
            }
            text.append((char) sign);
        }
        return text.toString();
    }

    static void dueText(String what, String want, String got) {
        checked++;
        if (!want.equals(got)) {
            fail(what + " printed '" + got + "', due is '" + want + "'");
        }
    }

    private static String toldAnew(House house) {
        if (lastTold != house || callsLastTold != house.callsAnswered()) {
            told = told(house::again);
            lastTold = house;
            callsLastTold = house.callsAnswered();
        }
        return told;
    }

    /** All that a house answers, and what comes of it. */
    private static String told(Supplier<House> made) {
        return new Teller(made).all.toString();
    }

    /** Each of these leaves the house as it was: all that it answers, and what comes of it. */
    static void changeNothing(Supplier<House> made, Map<String, Consumer<House>> asking) {
        String due = told(made);
        asking.forEach((what, call) -> {
            checked++;
            String got = told(() -> {
                House x = made.get();
                call.accept(x);
                return x;
            });
            if (!due.equals(got)) {
                fail(what + " was asked, and changed something");
            }
        });
    }

    private static final class Teller {
        final StringBuilder all = new StringBuilder();
        private final Supplier<House> made;
        private final Asked asked;
        private House now;

        Teller(Supplier<House> made) {
            this.made = made;
            asked = new Asked(made);
            if (made.get().callsLeft() <= MOST_FUTURE) {
                throw new AssertionError("a test makes too many calls ahead of what comes");
            }
            tellHouse();
            tellFutures();
        }

        private int ask(ToIntFunction<House> call) {
            return asked.ask(call);
        }

        private int askIfThere(ToIntFunction<House> call) {
            try {
                return ask(call);
            } catch (IndexOutOfBoundsException | IllegalStateException e) {
                return ABSENT;
            }
        }

        private void tell(int end, IntUnaryOperator call) {
            for (int what = 0; what < end; what++) {
                all.append(call.applyAsInt(what)).append(' ');
            }
            all.append('\n');
        }

        private void tellHouse() {
            all.append(ask(House::fault)).append(' ').append(ask(House::hour)).append('\n');
            for (int what = 0; what < 5; what++) {
                int account = what;
                tell(4, who -> askIfThere(x -> x.account(account, who)));
            }
            for (int sort = 0; sort < 28; sort++) {
                int box = sort;
                List<Integer> pieces = new ArrayList<>();
                for (int at = 0; at < 401 && (at == 0 || pieces.get(at - 1) >= 0); at++) {
                    int place = at;
                    pieces.add(ask(x -> x.box(box, place)));
                }
                all.append(pieces).append('\n');
            }
            for (int i = 0; i < 401; i++) {
                int piece = i;
                if (askIfThere(x -> x.piece(piece, 0)) == ABSENT) {
                    break;
                }
                tell(3, what -> ask(x -> x.piece(piece, what)));
            }
            for (int i = 0; i < 4; i++) {
                int book = i;
                if (askIfThere(x -> x.page(book, 0, 0)) != ABSENT) {
                    tellBook(book);
                }
            }
        }

        private void tellBook(int book) {
            for (int i = 0; i < 17; i++) {
                int page = i;
                if (askIfThere(x -> x.page(book, page, 0)) != ABSENT) {
                    tell(9, what -> ask(x -> x.page(book, page, what)));
                    for (int j = ask(x -> x.page(book, page, 7)); j > 0; j--) {
                        int line = j - 1;
                        tell(5, what -> ask(x -> x.line(book, page, line, what)));
                    }
                    for (int j = ask(x -> x.page(book, page, 6)); j > 0; j--) {
                        int place = j - 1;
                        tell(3, what -> ask(x -> x.place(book, page, place, what)));
                    }
                }
            }
            for (int i = 0; i < 9; i++) {
                int forme = i;
                if (askIfThere(x -> x.forme(book, forme, 0)) != ABSENT) {
                    tell(5, what -> ask(x -> x.forme(book, forme, what)));
                    tell(forme, other -> ask(x -> x.shared(book, other, forme)));
                    tell(forme, other -> ask(x -> x.ahead(book, other, forme)));
                }
            }
            all.append(ask(x -> x.orders(book))).append(' ').append(ask(x -> x.hands(book))).append(' ');
            all.append(ask(x -> x.presses(book))).append(' ').append(ask(x -> x.follows(book, 0))).append('\n');
            for (int i = 0; i < 25; i++) {
                int copy = i;
                if (askIfThere(x -> x.alike(book, copy)) != ABSENT) {
                    tellCopy(book, copy);
                }
            }
        }

        private void tellCopy(int book, int copy) {
            all.append(ask(x -> x.alike(book, copy))).append(' ').append(ask(x -> x.madeUp(book, copy))).append(' ');
            for (int i = 0; i < 16; i++) {
                int page = i;
                if (askIfThere(x -> x.state(book, copy, page)) != ABSENT) {
                    all.append(ask(x -> x.state(book, copy, page))).append(' ');
                    all.append(ask(x -> x.mark(book, copy, page / 2))).append(' ');
                    for (int line = 0; line < ask(x -> x.page(book, page, 7)); line++) {
                        all.append(printed(this::ask, book, copy, page, line)).append('\n');
                    }
                }
            }
        }

        /** What can't be asked, but shows in what comes; each of these futures is that of a house made anew. */
        private void tellFutures() {
            future(this::setOn);
            future(this::copyOn);
            future(this::followOn);
            future(this::castOffOn);
            future(this::growOn);
            future(this::lockOn);
            future(this::printOn);
            future(this::correctAndPutAwayOn);
            future(this::bindOn);
        }

        private void future(Runnable calls) {
            now = made.get();
            int left = now.callsLeft() - MOST_FUTURE;
            calls.run();
            if (now.callsLeft() < left) {
                throw new AssertionError("a future has more calls than it may");
            }
            all.append('\n');
        }

        private int tryOut(ToIntFunction<House> call) {
            int answer;
            try {
                answer = call.applyAsInt(now);
            } catch (IndexOutOfBoundsException e) {
                answer = -101;
            } catch (IllegalArgumentException e) {
                answer = -102;
            } catch (IllegalStateException e) {
                answer = -103;
            }
            all.append(answer).append(' ');
            return answer;
        }

        private void tryOutVoid(Consumer<House> call) {
            tryOut(x -> {
                call.accept(x);
                return 0;
            });
        }

        private void setOn() {
            for (int i = 0; i < 48; i++) {
                int book = i / 16;
                int page = i % 16;
                if (tryOut(x -> x.set(book, page, 0)) >= 0) {
                    tryOut(x -> x.page(book, page, 3));
                }
            }
        }

        private void copyOn() {
            tryOut(House::wipe);
            for (int i = 0; i < 3; i++) {
                int book = i;
                tryOut(x -> x.type('a', 1));
                tryOut(x -> x.copy(book));
            }
        }

        private void followOn() {
            for (int i = 0; i < 6; i++) {
                int book = i / 2;
                int other = (book + 1 + i % 2) % 3;
                tryOut(x -> x.follow(book, other));
            }
        }

        private void castOffOn() {
            for (int i = 0; i < 3; i++) {
                int book = i;
                tryOut(x -> x.castOff(book, 50));
                tryOut(x -> x.set(book, 1, 0));
                tryOut(x -> x.page(book, 1, 3));
            }
        }

        private void growOn() {
            tryOut(House::wipe);
            tryOut(x -> x.type(packed("z zxyq"), 6));
            tryOut(House::spelling);
            tryOut(x -> x.cast(0, 1));
            tryOut(x -> x.hand(0, 0, 0));
            tryOut(x -> x.book(2, 1, 10, 1, 2));
            tryOut(x -> x.pass(70));
            tryOut(House::hour);
        }

        private void lockOn() {
            for (int i = 0; i < 24; i++) {
                int book = i / 8;
                int forme = i % 8;
                tryOutVoid(x -> x.lock(book, forme, forme % 6));
            }
        }

        /** The men, the stock, and how far presses are. */
        private void printOn() {
            for (int i = 0; i < 24; i++) {
                int book = i / 8;
                int forme = i % 8;
                tryOutVoid(x -> x.print(forme % 3, book, forme));
            }
            for (int hour = 0; hour < 3; hour++) {
                tryOut(x -> x.pass(1));
            }
            for (int i = 0; i < 3; i++) {
                int press = i;
                tryOut(x -> x.men(press, 0));
                tryOut(x -> x.account(2, press));
                tryOut(x -> x.account(3, press));
            }
            for (int i = 0; i < 4; i++) {
                int stock = i;
                tryOut(x -> x.account(4, stock));
            }
        }

        private void correctAndPutAwayOn() {
            for (int i = 0; i < 12; i++) {
                int book = i / 4;
                int page = i % 4;
                tryOut(x -> x.correct(book, page, 0));
            }
            for (int i = 0; i < 12; i++) {
                int book = i / 4;
                int forme = i % 4;
                tryOut(x -> x.putAway(book, forme, 0));
            }
            for (int i = 0; i < 28; i++) {
                int sort = i;
                tryOut(x -> x.box(sort, 0));
            }
        }

        /** The turns of heaps, and which formes were first. */
        private void bindOn() {
            for (int i = 0; i < 3; i++) {
                int book = i;
                tryOut(x -> x.pass(30));
                if (tryOut(x -> x.bind(book)) >= 0) {
                    for (int copy = 0; copy < 3; copy++) {
                        int its = copy;
                        tryOut(x -> x.mark(book, its, 0));
                        tryOut(x -> x.state(book, its, 0));
                        tryOut(x -> x.state(book, its, 1));
                    }
                }
            }
        }
    }
}
