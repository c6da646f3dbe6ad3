import java.util.ArrayList;
import java.util.List;
import java.util.Map;
import java.util.Random;
import java.util.TreeMap;

/**
 * Runs of calls that are drawn from numbered seeds, given to Leadchapel and to the ModelHouse. Most calls are such that
 * bring the house further; some have wild arguments. Run it with two numbers for the seeds from the first one up to,
 * but without, the second one.
 */
public final class RandomRunsTests {
    private static final long[] EDGES = {
        Integer.MIN_VALUE, -2, -1, 0, 1, 2, 3, 4, 5, 6, 7, 8, 9, 10, 12, 16, 24, 25, 28, 50, 63, 64, 70, 71, 100, 150,
        151, 400, 1 << 28, 1 << 30, Integer.MAX_VALUE
    };

    private final Random random;
    private final Twins twins = new Twins();
    private final List<String> vocabulary = new ArrayList<>();
    private final List<String> pairs = new ArrayList<>();
    private final String letters;
    private final int[] formats;
    private final int wildness;
    private final int pieceWish;
    private final int strokes;
    private final boolean byFormes;
    private int books;
    private int handsTaken;
    private int castPieces;

    private RandomRunsTests(long seed) {
        random = new Random(seed * 0x9E3779B97F4A7C15L + 1);
        String[] alphabets = {"abc", "nubqdp", "fil", "nufidoe", "abcdefghilmnopqrstu", "ab"};
        letters = alphabets[random.nextInt(alphabets.length)];
        formats = new int[] {2, 2, 2, random.nextBoolean() ? 4 : 2, random.nextInt(4) == 0 ? 8 : 2};
        wildness = random.nextInt(3) == 0 ? 25 : 4;
        byFormes = random.nextInt(3) == 0;
        pieceWish = random.nextInt(3) == 0 || byFormes ? 40 : 390;
        strokes = 5 + random.nextInt(50);
        int most = 1 + random.nextInt(8);
        for (int i = 0; i < 2 + random.nextInt(5); i++) {
            vocabulary.add(word(1 + random.nextInt(most)));
        }
        for (int i = random.nextInt(7); i > 0; i--) {
            String brief = word(1 + random.nextInt(Math.min(most, 7)));
            String full = brief + word(1 + random.nextInt(Math.min(3, 8 - brief.length())));
            pairs.add(brief + " " + full);
            vocabulary.add(brief);
            vocabulary.add(full);
        }
    }

    private String word(int length) {
        StringBuilder made = new StringBuilder();
        for (int i = 0; i < length; i++) {
            made.append(letters.charAt(random.nextInt(letters.length())));
        }
        return made.toString();
    }

    private int below(int end) {
        return random.nextInt(Math.max(end, 1));
    }

    private void typeAll(String text) {
        for (int at = 0; at < text.length(); at += 8) {
            String part = text.substring(at, Math.min(at + 8, text.length()));
            long characters = random.nextInt(4) == 0 && part.length() < 8 ? 0x21L << 8 * part.length() : 0;
            for (int i = 0; i < part.length(); i++) {
                characters |= (long) part.charAt(i) << 8 * i;
            }
            twins.both("type", characters, part.length());
        }
    }

    private void typeText() {
        StringBuilder text = new StringBuilder();
        int wish = 1 + below(12);
        String last = "";
        for (int i = 0; i < wish; i++) {
            String next = i > 0 && below(4) == 0 ? last : vocabulary.get(below(vocabulary.size()));
            if (text.length() + next.length() + 1 <= 40) {
                if (text.length() > 0) {
                    text.append(below(100) < strokes ? '/' : ' ');
                }
                text.append(next);
                last = next;
            }
        }
        if (below(20) == 0) {
            text.append(below(2) == 0 ? " " : "abcdefghi");
        }
        typeAll(text.length() > 40 ? text.substring(0, 40) : text.toString());
    }

    private void prepare() {
        for (String pair : pairs) {
            typeAll(pair);
            twins.both("spelling");
            twins.both("wipe");
        }
        for (int i = 1 + below(4); i > 0; i--) {
            takeHand();
        }
        for (int i = 0; i < 60 && castPieces < pieceWish; i++) {
            castSome();
        }
        for (int i = 1 + below(3); i > 0; i--) {
            beginBook();
        }
        for (int press = 0; press < 3; press++) {
            twins.both("men", press, below(3));
        }
    }

    private void takeHand() {
        int mode = below(4);
        int drops = mode == 0 ? 1 + below(9) : 0;
        int skips = mode == 1 || mode == 0 ? 1 + below(3) : 0;
        if (twins.both("hand", below(64), drops, skips) != null) {
            handsTaken++;
        }
    }

    private void castSome() {
        String likely = letters + "nubqdp";
        int sort = below(5) == 0 ? 26 + below(2) : likely.charAt(below(likely.length())) - 'a';
        Integer all = twins.both("cast", sort, 1 + below(pieceWish > 100 ? 40 : 3));
        castPieces = all == null ? castPieces : all;
    }

    private void beginBook() {
        int format = formats[below(formats.length)];
        int sheets = below(3) == 0 || byFormes ? 1 + below(8 / format) : 1;
        int measure = 10 + (below(2) == 0 ? below(5) : below(15));
        int lines = 1 + below(below(byFormes ? 2 : 6) + 1);
        if (twins.both("book", format, sheets, measure, lines, 2 + below(below(byFormes ? 4 : 23) + 1)) == null) {
            return;
        }
        int book = books++;
        if (book > 0 && below(4) == 0) {
            return;
        }
        for (int i = 1 + below(5); i > 0; i--) {
            typeText();
            twins.both("copy", book);
            twins.both("wipe");
        }
        if (below(2) == 0 || byFormes) {
            twins.both("castOff", book, below(3) == 0 ? 50 + below(101) : 50 + below(30));
        }
    }

    private int ask(String name, long... args) {
        Integer told = twins.both(name, args);
        return told == null ? -9 : told;
    }

    private int count(String name, int book) {
        ModelHouse model = twins.model;
        for (int i = 0; i < 99; i++) {
            try {
                if (name.equals("page")) {
                    model.page(book, i, 0);
                } else {
                    model.forme(book, i, 0);
                }
            } catch (IndexOutOfBoundsException e) {
                return i;
            }
        }
        return 99;
    }

    /** Does with a forme what comes next. */
    private void bringFurther(int book) {
        int formes = count("forme", book);
        int forme = below(formes);
        for (int i = 0; i < formes && byFormes && twins.model.forme(book, forme, 0) == 4; i++) {
            forme = (forme + 1) % formes;
        }
        switch (twins.model.forme(book, forme, 0)) {
            case 0:
                setOrLock(book, forme);
                break;
            case 1:
                if (below(4) == 0) {
                    twins.both("paper", below(4));
                }
                if (below(4) == 0) {
                    correctSome(book, forme);
                }
                twins.both("print", below(3), book, forme);
                break;
            case 2:
                if (below(2) == 0) {
                    correctSome(book, forme);
                }
                twins.both("pass", below(8) == 0 ? 1 + below(70) : 1 + below(4));
                break;
            case 3:
                if (below(3) > 0) {
                    twins.both("putAway", book, forme, below(handsTaken));
                } else {
                    twins.both("bind", book);
                }
                break;
            default:
                if (below(5) == 0) {
                    twins.both("bind", book);
                }
        }
    }

    private void setOrLock(int book, int forme) {
        int pages = count("page", book);
        int unset = 0;
        for (int page = 0; page < pages; page++) {
            if (twins.model.page(book, page, 1) < 0) {
                unset++;
                boolean wished = byFormes ? twins.model.page(book, page, 0) == forme : unset == 1 || below(4) == 0;
                if (wished) {
                    twins.both("set", book, page, below(handsTaken));
                }
            }
        }
        if (below(2) == 0 || unset == 0) {
            twins.both("lock", book, forme, below(6));
        }
    }

    private void correctSome(int book, int forme) {
        int page = below(count("page", book));
        for (int i = 0; i < 6 && twins.model.page(book, page, 0) != forme; i++) {
            page = below(count("page", book));
        }
        int places = twins.model.page(book, page, 6);
        for (int i = below(3); i >= 0; i--) {
            twins.both("correct", book, page, below(places));
        }
    }

    private void copyCalls(int book) {
        int edition = 0;
        try {
            while (edition < 99) {
                twins.model.state(book, edition, 0);
                edition++;
            }
        } catch (IndexOutOfBoundsException | IllegalStateException e) {
            if (edition == 0) {
                twins.both("lay", book, below(3), below(5));
                return;
            }
        }
        int leaves = count("page", book) / 2;
        if (below(3) > 0) {
            twins.both("exchange", book, below(edition), below(edition), below(leaves));
        } else {
            twins.both("cancel", book, edition - 1 - below(below(edition)), below(leaves));
        }
    }

    private void wearSome() {
        for (int i = below(6); i >= 0; i--) {
            int piece = below(castPieces);
            for (int tries = 0; tries < 8 && twins.model.piece(piece, 2) < 100; tries++) {
                piece = below(castPieces);
            }
            twins.both("wear", piece);
        }
    }

    private void wildCall() {
        List<String> names = new ArrayList<>();
        Twins.names().forEach(names::add);
        names.sort(null);
        String name = names.get(below(names.size()));
        Class<?>[] types = Twins.parameters(name);
        long[] args = new long[types.length];
        for (int i = 0; i < args.length; i++) {
            boolean near = below(5) > 0;
            args[i] = near ? below(4) : EDGES[below(EDGES.length)];
            if (types[i] == long.class && below(2) == 0) {
                args[i] = random.nextLong();
            }
        }
        twins.both(name, args);
    }

    private void step() {
        int dice = below(100);
        if (dice < wildness) {
            wildCall();
        } else if (dice < (byFormes ? 60 : 75)) {
            bringFurther(below(books));
        } else if (dice < 82) {
            wearSome();
        } else if (dice < 92) {
            copyCalls(below(books));
        } else if (dice < 94) {
            twins.both("men", below(3), below(3));
        } else if (dice < 96) {
            twins.both("follow", below(3), below(3));
        } else if (dice < 97) {
            castSome();
        } else if (dice < 98) {
            takeHand();
        } else if (dice < 99) {
            beginBook();
        } else {
            typeText();
            twins.both("copy", below(books));
        }
    }

    /** Many formes of few pieces that go on being worn, so that few orders fit. */
    private String runOfFormes() {
        twins.both("cast", 0, 3 + below(5));
        twins.both("cast", 1, 3 + below(5));
        twins.both("hand", 0, below(2) * below(10), 0);
        twins.both("men", 0, 2);
        for (int book = 0; book < 3; book++) {
            int format = below(3) == 0 ? 4 : 2;
            twins.both("book", format, below(3) == 0 ? 1 + below(8 / format) : 8 / format, 10, 1, 2);
            for (int i = 0; i < 3; i++) {
                StringBuilder text = new StringBuilder("a");
                while (text.length() < 39) {
                    text.append(below(8) == 0 ? '/' : ' ').append(below(2) == 0 ? 'a' : 'b');
                }
                typeAll(text.toString());
                twins.both("copy", book);
            }
            twins.both("castOff", book, 50 + below(40));
            List<Integer> formes = new ArrayList<>();
            for (int forme = count("forme", book); forme > 0; forme--) {
                formes.add(below(formes.size() + 1), forme - 1);
            }
            for (int forme : formes) {
                bringThrough(book, forme);
            }
        }
        return twins.difference;
    }

    private void bringThrough(int book, int forme) {
        for (int page = 0; page < count("page", book); page++) {
            if (twins.model.page(book, page, 0) == forme) {
                twins.both("set", book, page, 0);
            }
        }
        twins.both("lock", book, forme, 0);
        twins.both("print", 0, book, forme);
        for (int i = below(4); i > 0; i--) {
            twins.both("wear", below(8));
        }
        twins.both("pass", 2 + below(2) * 10);
        twins.both("putAway", book, forme, 0);
        twins.compareAll();
    }

    /** Many loose lines by hands that like other forms. */
    private String runOfHands() {
        for (String pair : new String[] {"a ab", "b ba", "c ccc", "d dddd", "e ea", "f fi"}) {
            typeAll(pair);
            twins.both("spelling");
        }
        for (int i = 0; i < 4; i++) {
            twins.both("hand", below(64), 0, below(3));
        }
        twins.both("book", 2, 4, 10 + below(15), 1 + below(3), 2);
        for (int i = 0; i < 6; i++) {
            StringBuilder text = new StringBuilder("a");
            for (int word = 1 + below(9); word > 0; word--) {
                text.append(below(3) > 0 ? '/' : ' ').append((char) ('a' + below(7)));
            }
            typeAll(text.toString());
            twins.both("copy", 0);
        }
        if (below(2) == 0) {
            twins.both("castOff", 0, 50 + below(20));
        }
        for (int page = 0; page < 16; page++) {
            twins.both("set", 0, page, below(4));
            if (page > 2 || below(5) == 0) {
                twins.both("hands", 0);
            }
        }
        twins.compareAll();
        return twins.difference;
    }

    private String run(int seed) {
        return seed % 10 == 8 ? runOfFormes() : seed % 10 == 9 ? runOfHands() : runOfAll();
    }

    private String runOfAll() {
        prepare();
        if (books == 0 || handsTaken == 0) {
            return "nothing was prepared";
        }
        for (int many : new int[] {64, 128, 192, 256, 320, 384, House.MOST_CALLS}) {
            for (int i = 0; i < 9999 && twins.calls.size() < many && twins.difference == null; i++) {
                step();
            }
            if (twins.difference == null && many < House.MOST_CALLS) {
                twins.compareAll();
            }
        }
        return twins.difference;
    }

    public static void main(String[] args) {
        int from = args.length > 0 ? Integer.parseInt(args[0]) : 0;
        int to = args.length > 1 ? Integer.parseInt(args[1]) : 400;
        Map<String, Integer> outcomes = new TreeMap<>();
        int wrong = 0;
        for (int seed = from; seed < to; seed++) {
            RandomRunsTests one = new RandomRunsTests(seed);
            String difference = one.run(seed);
            if (difference != null && wrong < 3) {
                System.out.println("seed " + seed + ": " + String.join("\n  ", one.twins.calls) + "\n=> " + difference);
            }
            wrong += difference == null ? 0 : 1;
            one.twins.outcomes.forEach((key, many) -> outcomes.merge(key, many, Integer::sum));
        }
        if (args.length > 2) {
            outcomes.forEach((key, many) -> System.out.println(many + " " + key));
        }
        System.out.println((to - from - wrong) + " random runs as the model, " + wrong + " otherwise");
        if (wrong > 0) {
            System.exit(1);
        }
    }
}
