import java.util.ArrayList;
import java.util.List;
import java.util.function.Function;

/**
 * A Leadchapel for tests, with the same face. It counts its calls, as no more than 512 are promised; and it keeps those
 * that were answered, so that the same house can be made anew when there is more to ask than one house may be asked.
 */
final class House {
    static final int MOST_CALLS = 512;

    private final Leadchapel itself = new Leadchapel();
    private final List<Function<Leadchapel, Integer>> answered = new ArrayList<>();
    private Function<Leadchapel, Integer> refused;
    private int calls;

    private int call(Function<Leadchapel, Integer> call) {
        if (calls >= MOST_CALLS) {
            throw new AssertionError("a test makes more than " + MOST_CALLS + " calls of one house");
        }
        calls++;
        refused = call;
        int answer = call.apply(itself);
        refused = null;
        answered.add(call);
        return answer;
    }

    /** How many calls this one may still be given. */
    int callsLeft() {
        return MOST_CALLS - calls;
    }

    /** How many calls were answered; what the house tells does not differ as long as this stays. */
    int callsAnswered() {
        return answered.size();
    }

    /** The same house made anew, without the calls that were refused. */
    House again() {
        House same = new House();
        for (Function<Leadchapel, Integer> each : answered) {
            same.call(each);
        }
        return same;
    }

    /** The same house made anew, and then given the call that was refused last. */
    House againRefused() {
        House same = again();
        try {
            same.call(refused);
        } catch (RuntimeException e) {
            // That it throws was seen at the first house; here what it leaves is looked at.
        }
        return same;
    }

    // ---- the tape, words

    int type(long characters, int n) {
        return call(x -> x.type(characters, n));
    }

    int wipe() {
        return call(x -> x.wipe());
    }

    int fault() {
        return call(x -> x.fault());
    }

    int spelling() {
        return call(x -> x.spelling());
    }

    // ---- type, hands

    int cast(int sort, int many) {
        return call(x -> x.cast(sort, many));
    }

    int wear(int piece) {
        return call(x -> x.wear(piece));
    }

    int piece(int piece, int what) {
        return call(x -> x.piece(piece, what));
    }

    int box(int sort, int place) {
        return call(x -> x.box(sort, place));
    }

    int hand(int likes, int drops, int skips) {
        return call(x -> x.hand(likes, drops, skips));
    }

    // ---- books, pages

    int book(int format, int sheets, int measure, int lines, int edition) {
        return call(x -> x.book(format, sheets, measure, lines, edition));
    }

    int copy(int book) {
        return call(x -> x.copy(book));
    }

    int follow(int book, int other) {
        return call(x -> x.follow(book, other));
    }

    int castOff(int book, int percent) {
        return call(x -> x.castOff(book, percent));
    }

    int set(int book, int page, int hand) {
        return call(x -> x.set(book, page, hand));
    }

    int page(int book, int page, int what) {
        return call(x -> x.page(book, page, what));
    }

    int line(int book, int page, int line, int what) {
        return call(x -> x.line(book, page, line, what));
    }

    int place(int book, int page, int place, int what) {
        return call(x -> x.place(book, page, place, what));
    }

    // ---- formes, presses

    void lock(int book, int forme, int skeleton) {
        call(x -> {
            x.lock(book, forme, skeleton);
            return 0;
        });
    }

    void print(int press, int book, int forme) {
        call(x -> {
            x.print(press, book, forme);
            return 0;
        });
    }

    int men(int press, int many) {
        return call(x -> x.men(press, many));
    }

    int pass(int hours) {
        return call(x -> x.pass(hours));
    }

    int hour() {
        return call(x -> x.hour());
    }

    int forme(int book, int forme, int what) {
        return call(x -> x.forme(book, forme, what));
    }

    int correct(int book, int page, int place) {
        return call(x -> x.correct(book, page, place));
    }

    int putAway(int book, int forme, int hand) {
        return call(x -> x.putAway(book, forme, hand));
    }

    // ---- paper, copies

    int paper(int stock) {
        return call(x -> x.paper(stock));
    }

    void lay(int book, int sheet, int turn) {
        call(x -> {
            x.lay(book, sheet, turn);
            return 0;
        });
    }

    int bind(int book) {
        return call(x -> x.bind(book));
    }

    void exchange(int book, int one, int other, int leaf) {
        call(x -> {
            x.exchange(book, one, other, leaf);
            return 0;
        });
    }

    int cancel(int book, int copy, int leaf) {
        return call(x -> x.cancel(book, copy, leaf));
    }

    int state(int book, int copy, int page) {
        return call(x -> x.state(book, copy, page));
    }

    int mark(int book, int copy, int leaf) {
        return call(x -> x.mark(book, copy, leaf));
    }

    int character(int book, int copy, int page, int line, int place) {
        return call(x -> x.character(book, copy, page, line, place));
    }

    int alike(int book, int copy) {
        return call(x -> x.alike(book, copy));
    }

    int madeUp(int book, int copy) {
        return call(x -> x.madeUp(book, copy));
    }

    // ---- the scholar

    int shared(int book, int one, int other) {
        return call(x -> x.shared(book, one, other));
    }

    int orders(int book) {
        return call(x -> x.orders(book));
    }

    int ordersAnew(int book) {
        return call(x -> x.ordersAnew(book));
    }

    int ahead(int book, int one, int other) {
        return call(x -> x.ahead(book, one, other));
    }

    int hands(int book) {
        return call(x -> x.hands(book));
    }

    int presses(int book) {
        return call(x -> x.presses(book));
    }

    int follows(int book, int other) {
        return call(x -> x.follows(book, other));
    }

    int account(int what, int who) {
        return call(x -> x.account(what, who));
    }
}
