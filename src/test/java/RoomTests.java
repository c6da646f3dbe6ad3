import com.sun.management.ThreadMXBean;
import java.lang.management.ManagementFactory;

/** What calls make stays in the room: the constructor and a book make rows once, all other calls make nothing. */
public final class RoomTests {
    private static final ThreadMXBean THREADS = (ThreadMXBean) ManagementFactory.getThreadMXBean();
    private static int wrong;

    private RoomTests() {
    }

    private static long room() {
        return THREADS.getThreadAllocatedBytes(Thread.currentThread().getId());
    }

    private static void within(String what, long bytes, long most) {
        System.out.println(what + ": " + bytes + " bytes");
        if (bytes > most) {
            wrong++;
            System.out.println(what + " took " + bytes + " bytes, at most " + most + " are due");
        }
    }

    private static Leadchapel house() {
        Leadchapel x = new Leadchapel();
        for (int sort = 0; sort < 10; sort++) {
            x.cast(sort, 40);
        }
        x.hand(63, 2, 2);
        return x;
    }

    private static void type(Leadchapel x, String text) {
        for (int from = 0; from < text.length(); from += 8) {
            String part = text.substring(from, Math.min(from + 8, text.length()));
            x.type(Checks.packed(part), part.length());
        }
    }

    /** Brings a book of 16 pages through; asks all that is dear; it is some 350 calls. */
    private static int work(Leadchapel x, int book) {
        int sum = 0;
        for (int i = 0; i < 3; i++) {
            type(x, "a b c d e f g h i j a a a a a a a a a a");
            sum += x.copy(book);
        }
        sum += x.castOff(book, 50);
        for (int page = 0; page < 16; page++) {
            sum += x.set(book, page, 0);
        }
        for (int forme = 0; forme < 8; forme++) {
            x.lock(book, forme, 0);
            x.print(0, book, forme);
            for (int round = 0; round < 7; round++) {
                sum += x.pass(3);
                if (x.page(book, forme / 2 * 4 + forme % 2, 6) > 0) {
                    sum += x.correct(book, forme / 2 * 4 + forme % 2, 0);
                }
            }
            sum += x.pass(70);
            sum += x.putAway(book, forme, 0);
            sum += x.orders(book) + x.ordersAnew(book) + x.hands(book) + x.presses(book) + x.ahead(book, 0, 1);
        }
        sum += x.bind(book);
        for (int copy = 0; copy < 24; copy++) {
            sum += x.alike(book, copy) + x.madeUp(book, copy) + x.character(book, copy, 3, 0, 0);
        }
        return sum;
    }

    public static void main(String[] args) {
        Leadchapel warm = house();
        warm.book(2, 4, 24, 1, 24);
        work(warm, 0);

        long begin = room();
        Leadchapel x = house();
        within("a new house", room() - begin, 40_000);
        begin = room();
        int book = x.book(2, 4, 24, 1, 24);
        within("a book of one line a page", room() - begin, 200_000);
        begin = room();
        work(x, book);
        within("the work at a book", room() - begin, 20_000);
        begin = room();
        x.book(2, 4, 24, 6, 24);
        within("the largest book", room() - begin, 600_000);
        System.out.println(wrong == 0 ? "all calls stay in the room" : wrong + " calls take too much room");
        if (wrong > 0) {
            System.exit(1);
        }
    }
}
