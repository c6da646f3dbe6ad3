import java.util.LinkedHashMap;
import java.util.List;
import java.util.Map;
import java.util.function.Consumer;
import java.util.function.ToIntFunction;

/**
 * "Pages, states, orders and claims are asked, and change nothing": a house that was asked is compared with the same
 * one that was not, in all that it answers and in what comes of it, at each step of the life of a book.
 */
public final class AskingTests {
    private static final List<Consumer<House>> LIFE = List.of(
            AskingTests::prepare,
            AskingTests::thirdBook,
            x -> Checks.copy(x, 0, "do ab/go fit ab go ef/un do/go fl"),
            x -> x.castOff(0, 60),
            x -> Shop.setPages(x, 0, 0, 8),
            AskingTests::lockAll,
            x -> x.print(1, 0, 1),
            x -> x.pass(2),
            AskingTests::correctAndFinish,
            AskingTests::putAwayAndFollow,
            x -> x.bind(0),
            AskingTests::mixCopies);

    private static final Map<String, Consumer<House>> ASKING = new LinkedHashMap<>();

    private static int asked;
    private static int answered;

    private AskingTests() {
    }

    /** Type, two spellings, hands that like other forms, drop and skip, a book of two sheets, and another one. */
    private static void prepare(House x) {
        Checks.spelling(x, "do doe");
        Checks.spelling(x, "go gooee");
        Checks.castAll(x, "abdefgilotu", 3);
        x.cast(26, 1);
        x.hand(1, 7, 7);
        x.hand(0, 0, 0);
        x.book(2, 2, 10, 2, 3);
        x.book(2, 1, 12, 6, 2);
        x.men(0, 2);
        x.men(2, 2);
        x.type('/', 1);
    }

    /** A book whose outer forme can be printed, and whose other pages, when they are set, have ten chances to skip. */
    private static void thirdBook(House x) {
        x.wipe();
        x.book(2, 1, 24, 1, 2);
        Shop.copyMany(x, 2, 'z', 24);
        x.castOff(2, 50);
        x.set(2, 0, 1);
        x.set(2, 3, 1);
        x.lock(2, 0, 4);
    }

    private static void lockAll(House x) {
        x.wear(1);
        x.wear(4);
        for (int forme = 0; forme < 4; forme++) {
            x.lock(0, forme, forme);
        }
        x.paper(2);
        x.lay(0, 0, 1);
        x.type('z', 1);
    }

    private static void correctAndFinish(House x) {
        x.cast(3, 2);
        x.correct(0, 1, 0);
        x.pass(3);
        x.wear(1);
        for (int forme = 0; forme < 4; forme++) {
            if (forme != 1) {
                x.print(0, 0, forme);
                x.pass(6);
            }
        }
    }

    private static void putAwayAndFollow(House x) {
        x.putAway(0, 1, 0);
        x.putAway(0, 2, 0);
        x.follow(1, 0);
        x.set(1, 0, 1);
    }

    private static void mixCopies(House x) {
        x.exchange(0, 0, 1, 1);
        x.cancel(0, 2, 2);
    }

    /** Asks, be there an answer or none. */
    private static void ask(House x, ToIntFunction<House> call) {
        asked++;
        try {
            int first = call.applyAsInt(x);
            Checks.due("the same, asked again", first, call.applyAsInt(x));
            answered++;
        } catch (IndexOutOfBoundsException | IllegalArgumentException | IllegalStateException e) {
            // What is refused, and changes nothing by that, is looked at where its promise is.
        }
    }

    private interface Asking {
        int of(House x, int one, int other);
    }

    /** Asks with all these numbers. */
    private static void asking(String name, int ones, int others, Asking call) {
        ASKING.put(name, x -> {
            for (int i = 0; i < ones * others; i++) {
                int one = i / others;
                int other = i % others;
                ask(x, y -> call.of(y, one, other));
            }
        });
    }

    private static void askAll() {
        asking("fault", 1, 3, (x, one, other) -> x.fault());
        asking("piece", 12, 3, (x, one, other) -> x.piece(3 * one, other));
        asking("box", 27, 2, (x, one, other) -> x.box(one, other));
        asking("page", 8, 9, (x, one, other) -> x.page(0, one, other));
        asking("line", 16, 5, (x, one, other) -> x.line(0, one / 2, one % 2, other));
        asking("place", 24, 3, (x, one, other) -> x.place(0, one / 3, one % 3, other));
        asking("hour", 1, 3, (x, one, other) -> x.hour());
        asking("forme", 4, 5, (x, one, other) -> x.forme(0, one, other));
        asking("state", 3, 8, (x, one, other) -> x.state(0, one, other));
        asking("mark", 3, 4, (x, one, other) -> x.mark(0, one, other));
        asking("character", 6, 12, (x, one, other) -> x.character(0, one / 2, one % 2, 0, other));
        asking("alike", 3, 2, (x, one, other) -> x.alike(0, one));
        asking("madeUp", 3, 2, (x, one, other) -> x.madeUp(0, one));
        asking("shared", 4, 4, (x, one, other) -> x.shared(0, one, other));
        asking("orders", 2, 2, (x, one, other) -> x.orders(one));
        asking("ordersAnew", 2, 2, (x, one, other) -> x.ordersAnew(one));
        asking("ahead", 4, 4, (x, one, other) -> x.ahead(0, one, other));
        asking("hands", 2, 2, (x, one, other) -> x.hands(one));
        asking("presses", 2, 2, (x, one, other) -> x.presses(one));
        asking("follows", 2, 2, (x, one, other) -> x.follows(one, other));
        asking("account", 5, 4, (x, one, other) -> x.account(one, other));
    }

    private static House lived(int steps) {
        House x = new House();
        for (int step = 0; step < steps; step++) {
            LIFE.get(step).accept(x);
        }
        return x;
    }

    public static void main(String[] args) {
        askAll();
        for (int steps = 0; steps <= LIFE.size(); steps++) {
            int its = steps;
            Checks.holds(16, "pages, states, orders and claims are asked, and change nothing",
                    () -> Checks.changeNothing(() -> lived(its), ASKING));
        }
        ASKING.forEach((name, call) -> {
            int ahead = answered;
            call.accept(lived(LIFE.size()));
            Checks.due(name + " is answered at the end", 1, answered > ahead ? 1 : 0);
        });
        System.out.println(answered + " of " + asked + " questions were answered");
        Checks.end();
    }
}
