import java.util.function.IntSupplier;
import java.util.function.IntUnaryOperator;

/** What the promise tests share: answers that are due, exceptions that are due, and a house told whole. */
final class Checks {
    static final Class<IllegalArgumentException> ARGUMENT = IllegalArgumentException.class;
    static final Class<IllegalStateException> STATE = IllegalStateException.class;
    static final Class<IndexOutOfBoundsException> INDEX = IndexOutOfBoundsException.class;

    private static int checked;
    private static int wrong;

    private Checks() {
    }

    static void due(String what, long want, long got) {
        checked++;
        if (want != got) {
            wrong++;
            System.out.println(what + " answered " + got + ", due is " + want);
        }
    }

    /** The call throws just this exception, and the house is as it was then. */
    static void refuses(Leadchapel house, String what, Class<? extends RuntimeException> due, Runnable call) {
        checked++;
        String ahead = told(house);
        Class<?> thrown = null;
        try {
            call.run();
        } catch (RuntimeException e) {
            thrown = e.getClass();
        }
        if (thrown != due) {
            wrong++;
            System.out.println(what + " threw " + thrown + ", due is " + due);
        }
        if (!ahead.equals(told(house))) {
            wrong++;
            System.out.println(what + " changed something");
        }
    }

    static void end() {
        System.out.println((checked - wrong) + " of " + checked + " checks hold");
        if (wrong > 0) {
            System.exit(1);
        }
    }

    /** Types a text of any length. */
    static int type(Leadchapel house, String text) {
        int typed = 0;
        for (int from = 0; from < text.length(); from += 8) {
            String part = text.substring(from, Math.min(from + 8, text.length()));
            typed = house.type(packed(part), part.length());
        }
        return typed;
    }

    static long packed(String part) {
        long characters = 0;
        for (int i = 0; i < part.length(); i++) {
            characters |= (long) (part.charAt(i) & 255) << 8 * i;
        }
        return characters;
    }

    static int copy(Leadchapel house, int book, String text) {
        type(house, text);
        return house.copy(book);
    }

    static int spelling(Leadchapel house, String pair) {
        type(house, pair);
        return house.spelling();
    }

    static int sort(char letter) {
        return letter - 'a';
    }

    /** Casts so many pieces of each letter. */
    static void castAll(Leadchapel house, String letters, int many) {
        for (char letter : letters.toCharArray()) {
            house.cast(sort(letter), many);
        }
    }

    /** A line as it is printed in a copy. */
    static String printed(Leadchapel house, int book, int copy, int page, int line) {
        StringBuilder text = new StringBuilder();
        for (int at = 0; house.character(book, copy, page, line, at) != -1; at++) {
            text.append((char) house.character(book, copy, page, line, at));
        }
        return text.toString();
    }

    static void dueText(String what, String want, String got) {
        checked++;
        if (!want.equals(got)) {
            wrong++;
            System.out.println(what + " printed '" + got + "', due is '" + want + "'");
        }
    }

    private static boolean isThere(IntSupplier call) {
        try {
            call.getAsInt();
            return true;
        } catch (IndexOutOfBoundsException | IllegalStateException e) {
            return false;
        }
    }

    private static void tell(StringBuilder all, int end, IntUnaryOperator call) {
        for (int what = 0; what < end; what++) {
            all.append(call.applyAsInt(what)).append(' ');
        }
        all.append('\n');
    }

    private static String told(Leadchapel x) {
        StringBuilder all = new StringBuilder();
        all.append(x.fault()).append(' ').append(x.hour()).append('\n');
        for (int account = 0; account < 5; account++) {
            int what = account;
            for (int i = 0; i < 4; i++) {
                int who = i;
                if (isThere(() -> x.account(what, who))) {
                    all.append(x.account(what, who)).append(' ');
                }
            }
        }
        for (int i = 0; i < 400; i++) {
            int piece = i;
            if (!isThere(() -> x.piece(piece, 0))) {
                break;
            }
            tell(all, 3, what -> x.piece(piece, what));
        }
        for (int sort = 0; sort < 28; sort++) {
            for (int place = 0; x.box(sort, place) >= 0; place++) {
                all.append(x.box(sort, place)).append(' ');
            }
        }
        for (int i = 0; i < 3; i++) {
            int book = i;
            if (isThere(() -> x.page(book, 0, 0))) {
                tellBook(all, x, book);
            }
        }
        return all.toString();
    }

    private static void tellBook(StringBuilder all, Leadchapel x, int book) {
        for (int i = 0; i < 16; i++) {
            int page = i;
            if (isThere(() -> x.page(book, page, 0))) {
                tell(all, 9, what -> x.page(book, page, what));
                for (int j = 0; j < x.page(book, page, 7); j++) {
                    int line = j;
                    tell(all, 5, what -> x.line(book, page, line, what));
                }
                for (int j = 0; j < x.page(book, page, 6); j++) {
                    int place = j;
                    tell(all, 3, what -> x.place(book, page, place, what));
                }
            }
        }
        for (int i = 0; i < 8; i++) {
            int forme = i;
            if (isThere(() -> x.forme(book, forme, 0))) {
                tell(all, 5, what -> x.forme(book, forme, what));
            }
        }
        all.append(x.orders(book)).append(' ').append(x.hands(book)).append(' ').append(x.presses(book)).append('\n');
        for (int i = 0; i < 24; i++) {
            int copy = i;
            if (isThere(() -> x.alike(book, copy))) {
                tellCopy(all, x, book, copy);
            }
        }
    }

    private static void tellCopy(StringBuilder all, Leadchapel x, int book, int copy) {
        all.append(x.alike(book, copy)).append(' ').append(x.madeUp(book, copy)).append(' ');
        for (int i = 0; i < 16; i++) {
            int page = i;
            if (isThere(() -> x.state(book, copy, page))) {
                all.append(x.state(book, copy, page)).append(' ').append(x.mark(book, copy, page / 2)).append(' ');
                for (int line = 0; line < x.page(book, page, 7); line++) {
                    all.append(printed(x, book, copy, page, line)).append('\n');
                }
            }
        }
    }
}
