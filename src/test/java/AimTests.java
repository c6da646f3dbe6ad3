import java.util.HashSet;
import java.util.Random;
import java.util.Set;

/**
 * "The aim is that what truly was is among what fits, and that each claim holds in all that fits", and "type as pieces,
 * each in one place at a time": houses that work as it comes, drawn from numbered seeds, of which the test knows what
 * truly was.
 */
public final class AimTests {
    private static final int RUNS = 500;
    private static final int BOOK = 0;
    private static final int FOLLOWING = 1;
    private static final String WORDS = "do doe go gooee a ab b ba abab un nu fit";

    private static int claimsOfOrder;
    private static int claimsOfHands;
    private static int claimsOfPresses;
    private static int linesFollowed;
    private static int piecesAway;

    private final Random random;
    private final House x = new House();
    private final int[] pressOf = new int[8];
    private final int[] how = new int[8];
    private final Set<Integer> handsThatSet = new HashSet<>();
    private boolean isCastOff;
    private int format;
    private int formes;
    private int pages;
    private int measure;
    private int hands;
    private int pieces;

    private AimTests(int seed) {
        random = new Random(seed * 31L + 7);
    }

    private int below(int end) {
        return random.nextInt(end);
    }

    private void prepare() {
        Checks.spelling(x, "do doe");
        Checks.spelling(x, "go gooee");
        Checks.spelling(x, "a ab");
        for (char letter : "abdenuogfit".toCharArray()) {
            pieces = x.cast(Checks.sort(letter), 1 + below(3));
        }
        hands = 1 + below(3);
        for (int hand = 0; hand < hands; hand++) {
            x.hand(below(8), below(3) * below(4), below(2) * below(4));
        }
        x.hand(0, 0, 0);
        format = 2 << below(2);
        formes = 2 * (1 + below(8 / format));
        pages = formes * format;
        measure = 10 + below(8);
        x.book(format, formes / 2, measure, 1 + below(2), 2 + below(2));
        for (int text = 3 + below(2); text > 0; text--) {
            typeText();
        }
        isCastOff = below(3) > 0;
        if (isCastOff) {
            x.castOff(BOOK, 50 + below(40));
        }
        for (int press = 0; press < 3; press++) {
            x.men(press, 1 + below(2));
        }
    }

    private void typeText() {
        String[] words = WORDS.split(" ");
        StringBuilder text = new StringBuilder(words[below(words.length)]);
        for (int more = 4 + below(8); more > 0; more--) {
            text.append(below(3) == 0 ? ' ' : '/').append(words[below(words.length)]);
        }
        Checks.copy(x, BOOK, text.substring(0, Math.min(text.length(), 39)) + "e");
    }

    private boolean tries(Runnable call) {
        try {
            call.run();
            return true;
        } catch (IllegalStateException e) {
            return false;
        }
    }

    private int formeOf(int page) {
        int inSheet = page % (2 * format) + 1;
        return page / (2 * format) * 2 + (inSheet % 4 <= 1 ? 0 : 1);
    }

    /** Sets what can be set of a forme, and locks it if all is. */
    private void setAndLock(int forme) {
        for (int page = 0; page < pages; page++) {
            int its = page;
            int hand = below(hands);
            boolean isWished = isCastOff ? formeOf(page) == forme : page / (2 * format) <= forme / 2;
            if (isWished && tries(() -> x.set(BOOK, its, hand))) {
                handsThatSet.add(hand);
            }
        }
        int skeleton = below(6);
        tries(() -> x.lock(BOOK, forme, skeleton));
    }

    /** Lets some pieces of a forme be worn. */
    private void wearSome(int forme) {
        for (int page = 0; page < pages; page++) {
            int places = formeOf(page) == forme ? x.page(BOOK, page, 6) : 0;
            int piece = places > 0 ? x.place(BOOK, page, below(places), 0) : Leadchapel.NONE;
            if (piece >= 0) {
                tries(() -> x.wear(piece));
            }
        }
    }

    /** Returns how the forme is then. */
    private int bringFurther(int forme) {
        switch (x.forme(BOOK, forme, 0)) {
            case Leadchapel.OPEN:
                setAndLock(forme);
                break;
            case Leadchapel.LOCKED:
                wearSome(forme);
                int press = below(3);
                if (tries(() -> x.print(press, BOOK, forme))) {
                    pressOf[forme] = press;
                }
                break;
            case Leadchapel.ON:
                x.pass(1 + below(4));
                break;
            case Leadchapel.DONE:
                x.putAway(BOOK, forme, below(hands));
                break;
            default:
        }
        return x.forme(BOOK, forme, 0);
    }

    private void work() {
        prepare();
        int forme = 0;
        boolean isInARow = below(2) == 0;
        for (int step = 0; step < 200 && x.callsLeft() > 120; step++) {
            for (int tried = 0; tried < formes && how[forme] == Leadchapel.GONE; tried++) {
                forme = (forme + 1) % formes;
            }
            how[forme] = bringFurther(forme);
            forme = isInARow ? forme : below(formes);
            if (below(12) == 0) {
                int page = below(pages);
                if (x.page(BOOK, page, 6) > 0) {
                    tries(() -> x.correct(BOOK, page, 0));
                }
            }
        }
        followIt();
    }

    /** Sets all that is on the pages anew, in wider lines, in short forms, and without skipping. */
    private void followIt() {
        int lines = 0;
        for (int page = 0; page < pages; page++) {
            lines += Math.max(x.page(BOOK, page, 7), 0);
        }
        x.book(2, 4, measure + below(24 - measure), 6, 2);
        if (tries(() -> x.follow(FOLLOWING, BOOK))) {
            for (int page = 0; page < 16; page++) {
                x.set(FOLLOWING, page, hands);
            }
            Checks.due("the lines of a book that follows line by line", lines, x.follows(FOLLOWING, BOOK));
            linesFollowed += lines;
        }
    }

    private void dueOrder(Asked asked) {
        Checks.due("some order fits", 1, asked.ask(x -> x.orders(BOOK)) > 0 ? 1 : 0);
        for (int i = 0; i < formes * formes; i++) {
            int one = i / formes;
            int other = i % formes;
            if (one != other && asked.ask(x -> x.ahead(BOOK, one, other)) == 1) {
                int first = asked.ask(x -> x.forme(BOOK, one, 4));
                int second = asked.ask(x -> x.forme(BOOK, other, 4));
                Checks.due("forme " + one + " truly was ahead of " + other, 1, first >= 0 && first < second ? 1 : 0);
                Checks.due("the other way", -1, asked.ask(x -> x.ahead(BOOK, other, one)));
                claimsOfOrder++;
            }
        }
    }

    private void dueFewest(Asked asked) {
        int fewestHands = asked.ask(x -> x.hands(BOOK));
        Checks.due("as many hands as truly set pages, or fewer", 1, fewestHands <= handsThatSet.size() ? 1 : 0);
        claimsOfHands += fewestHands > 1 ? 1 : 0;
        Set<Integer> used = new HashSet<>();
        for (int i = 0; i < formes; i++) {
            int forme = i;
            if (asked.ask(x -> x.forme(BOOK, forme, 4)) >= 0) {
                used.add(pressOf[forme]);
            }
        }
        int fewestPresses = asked.ask(x -> x.presses(BOOK));
        Checks.due("as many presses as were truly used, or fewer", 1, fewestPresses <= used.size() ? 1 : 0);
        claimsOfPresses += fewestPresses > 1 ? 1 : 0;
    }

    /** Each piece is found once, in a box or at a place, and where it is told to be. */
    private void duePlaces(Asked asked) {
        int[] found = new int[pieces];
        for (int i = 0; i < 28; i++) {
            int sort = i;
            for (int at = 0; asked.ask(boxOf(sort, at)) >= 0; at++) {
                found(asked, found, asked.ask(boxOf(sort, at)), sort);
            }
        }
        for (int book = BOOK; book <= FOLLOWING; book++) {
            for (int page = 0; page < (book == BOOK ? pages : 16); page++) {
                for (int place = asked.ask(placesOf(book, page)) - 1; place >= 0; place--) {
                    int piece = asked.ask(pieceAt(book, page, place));
                    if (piece >= 0) {
                        found(asked, found, piece, 100 + 100 * book + page);
                        piecesAway++;
                    }
                }
            }
        }
        for (int piece = 0; piece < pieces; piece++) {
            Checks.due("places of the piece " + piece, 1, found[piece]);
        }
    }

    private static void found(Asked asked, int[] found, int piece, int where) {
        found[piece]++;
        Checks.due("where the piece " + piece + " is", where, asked.ask(x -> x.piece(piece, 2)));
    }

    private static java.util.function.ToIntFunction<House> boxOf(int sort, int at) {
        return x -> x.box(sort, at);
    }

    private static java.util.function.ToIntFunction<House> placesOf(int book, int page) {
        return x -> x.page(book, page, 6);
    }

    private static java.util.function.ToIntFunction<House> pieceAt(int book, int page, int place) {
        return x -> x.place(book, page, place, 0);
    }

    public static void main(String[] args) {
        for (int seed = 0; seed < RUNS; seed++) {
            AimTests run = new AimTests(seed);
            Checks.holds(13, "a book that follows another one line by line", run::work);
            Asked asked = new Asked(run.x::again);
            Checks.holds(40, "what truly was is among what fits, and each claim holds", () -> run.dueOrder(asked));
            Checks.holds(41, "what truly was is among what fits, by hands and presses", () -> run.dueFewest(asked));
            Checks.holds(8, "it is in a box, or at a place of a page", () -> run.duePlaces(asked));
        }
        System.out.println(claimsOfOrder + " claims of order, " + claimsOfHands + " of two hands or more, "
                + claimsOfPresses + " of two presses or more, " + linesFollowed + " lines that follow, " + piecesAway
                + " pieces at places");
        Checks.due("some runs claim an order", 1, claimsOfOrder >= RUNS / 10 ? 1 : 0);
        Checks.due("some runs claim two hands", 1, claimsOfHands >= RUNS / 10 ? 1 : 0);
        Checks.due("some runs claim two presses", 1, claimsOfPresses >= RUNS / 10 ? 1 : 0);
        Checks.due("some books follow", 1, linesFollowed >= RUNS ? 1 : 0);
        Checks.due("some pieces are at places", 1, piecesAway >= RUNS ? 1 : 0);
        Checks.end();
    }
}
