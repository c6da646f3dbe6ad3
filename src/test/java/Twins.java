import java.lang.reflect.InvocationTargetException;
import java.lang.reflect.Method;
import java.util.ArrayList;
import java.util.HashMap;
import java.util.List;
import java.util.Map;

/**
 * A Leadchapel and a ModelHouse that are given the same calls; each answer that differs is told. As no more than 512
 * calls are promised, all that can be asked is asked of houses that are made anew by the same calls.
 */
final class Twins {
    private static final Map<String, Method[]> METHODS = new HashMap<>();

    static {
        for (Method method : Leadchapel.class.getDeclaredMethods()) {
            if (java.lang.reflect.Modifier.isPublic(method.getModifiers())) {
                try {
                    Method twin = ModelHouse.class.getMethod(method.getName(), method.getParameterTypes());
                    METHODS.put(method.getName(), new Method[] {method, twin});
                } catch (NoSuchMethodException e) {
                    throw new IllegalStateException("the model lacks " + method.getName());
                }
            }
        }
    }

    /** The calls whose answers show how far the runs came. */
    private static final List<String> TOLD = List.of("page", "line", "orders", "hands", "presses", "follows", "ahead",
            "shared", "madeUp", "alike", "state", "mark", "forme");
    private static final List<String> PARTS = List.of("page", "line", "forme");

    private final Leadchapel house = new Leadchapel();
    final ModelHouse model = new ModelHouse();
    final List<String> calls = new ArrayList<>();
    private final List<String> names = new ArrayList<>();
    private final List<long[]> arguments = new ArrayList<>();
    private Leadchapel asked;
    private int callsOfAsked;
    final Map<String, Integer> outcomes = new HashMap<>();
    String difference;

    static Iterable<String> names() {
        return METHODS.keySet();
    }

    static Class<?>[] parameters(String name) {
        return METHODS.get(name)[0].getParameterTypes();
    }

    /** Gives both the call; returns the model's answer, or null if that was an exception. */
    Integer both(String name, long... args) {
        if (calls.size() >= House.MOST_CALLS) {
            return null;
        }
        names.add(name);
        arguments.add(args);
        Object due = answer(METHODS.get(name)[1], model, args);
        Object got = answer(METHODS.get(name)[0], house, args);
        StringBuilder call = new StringBuilder(name).append('(');
        for (int i = 0; i < args.length; i++) {
            call.append(i > 0 ? ", " : "").append(args[i]);
        }
        calls.add(call.append(") -> ").append(due).toString());
        outcomes.merge(name + (due instanceof Integer ? " answers" : " " + due), 1, Integer::sum);
        if (difference == null && !due.equals(got)) {
            difference = call + ", but it was " + got;
        }
        return due instanceof Integer ? (Integer) due : null;
    }

    private void makeAnew() {
        asked = new Leadchapel();
        for (int i = 0; i < names.size(); i++) {
            answer(METHODS.get(names.get(i))[0], asked, arguments.get(i));
        }
        callsOfAsked = names.size();
    }

    /** Asks both without keeping the call in the list. */
    private void ask(String name, long... args) {
        if (callsOfAsked >= House.MOST_CALLS) {
            makeAnew();
        }
        callsOfAsked++;
        Object due = answer(METHODS.get(name)[1], model, args);
        Object got = answer(METHODS.get(name)[0], asked, args);
        if (TOLD.contains(name)) {
            String which = PARTS.contains(name) ? " " + args[args.length - 1] : "";
            outcomes.merge("told: " + name + which + " = " + due, 1, Integer::sum);
        }
        if (difference == null && !due.equals(got)) {
            difference = name + java.util.Arrays.toString(args) + " -> " + due + ", but it was " + got;
        }
    }

    private static Object answer(Method method, Object on, long[] args) {
        Class<?>[] types = method.getParameterTypes();
        Object[] given = new Object[args.length];
        for (int i = 0; i < args.length; i++) {
            if (types[i] == long.class) {
                given[i] = args[i];
            } else {
                given[i] = (int) args[i];
            }
        }
        try {
            Object result = method.invoke(on, given);
            return result == null ? Integer.valueOf(0) : result;
        } catch (InvocationTargetException e) {
            Throwable thrown = e.getCause();
            if (thrown instanceof Error) {
                throw (Error) thrown;
            }
            return "throws." + thrown.getClass().getSimpleName();
        } catch (IllegalAccessException e) {
            throw new IllegalStateException(e);
        }
    }

    /** Asks all that can be asked, of both. */
    void compareAll() {
        if (names.size() > 450) {
            throw new AssertionError("too many calls to ask all behind them");
        }
        makeAnew();
        ask("fault");
        ask("hour");
        for (int what = 0; what < 5; what++) {
            for (int who = 0; who < 5; who++) {
                ask("account", what, who);
            }
        }
        int pieces = 0;
        for (int sort = 0; sort < 28; sort++) {
            for (int at = 0; at == 0 || model.box(sort, at - 1) >= 0; at++) {
                ask("box", sort, at);
            }
        }
        while (!(answer(METHODS.get("piece")[1], model, new long[] {pieces, 0}) instanceof String)) {
            for (int what = 0; what < 3; what++) {
                ask("piece", pieces, what);
            }
            pieces++;
        }
        for (int book = 0; book < 3; book++) {
            if (!(answer(METHODS.get("page")[1], model, new long[] {book, 0, 0}) instanceof String)) {
                compareBook(book);
            }
        }
    }

    private static boolean is(Object answer) {
        return answer instanceof Integer;
    }

    private void compareBook(int book) {
        int pages = 0;
        while (is(answer(METHODS.get("page")[1], model, new long[] {book, pages, 0}))) {
            comparePage(book, pages);
            pages++;
        }
        int formes = 0;
        while (is(answer(METHODS.get("forme")[1], model, new long[] {book, formes, 0}))) {
            formes++;
        }
        for (int forme = 0; forme < formes; forme++) {
            for (int what = 0; what < 5; what++) {
                ask("forme", book, forme, what);
            }
            for (int other = 0; other < formes; other++) {
                ask("shared", book, forme, other);
                ask("ahead", book, forme, other);
            }
        }
        for (String name : new String[] {"orders", "ordersAnew", "hands", "presses"}) {
            ask(name, book);
        }
        for (int other = 0; other < 4; other++) {
            ask("follows", book, other);
        }
        compareCopies(book, pages);
    }

    private void comparePage(int book, int page) {
        for (int what = 0; what < 9; what++) {
            ask("page", book, page, what);
        }
        int lines = Math.max(model.page(book, page, 7), 0);
        for (int line = 0; line <= lines; line++) {
            for (int what = 0; what < 5; what++) {
                ask("line", book, page, line, what);
            }
        }
        int places = Math.max(model.page(book, page, 6), 0);
        for (int place = 0; place <= places; place++) {
            for (int what = 0; what < 3; what++) {
                ask("place", book, page, place, what);
            }
        }
    }

    private void compareCopies(int book, int pages) {
        for (int copy = 0; is(answer(METHODS.get("state")[1], model, new long[] {book, copy, 0})); copy++) {
            ask("alike", book, copy);
            ask("madeUp", book, copy);
            for (int page = 0; page < pages; page++) {
                ask("state", book, copy, page);
                ask("mark", book, copy, page / 2);
                for (int line = 0; line <= model.page(book, page, 7); line++) {
                    for (int at = 0; at == 0 || model.character(book, copy, page, line, at - 1) >= 0; at++) {
                        ask("character", book, copy, page, line, at);
                    }
                }
            }
        }
    }
}
