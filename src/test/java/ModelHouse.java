import java.util.ArrayList;
import java.util.Arrays;
import java.util.HashMap;
import java.util.HashSet;
import java.util.List;
import java.util.Map;
import java.util.Set;

/**
 * The document once more, written as plainly as can be with the whole Java library: words are texts, boxes are lists,
 * each printed sheet keeps what was printed on it, orders are tried one by one. Tests compare Leadchapel with it.
 */
public final class ModelHouse {
    static final class Spelling {
        String brief;
        String full;
    }

    static final class Piece {
        int number;
        int sort;
        int worn;
        List<Piece> box;
        int where;
    }

    static final class HandMan {
        int likes;
        int drops;
        int skips;
        int chances;
        int taken;
        int put;
    }

    static final class Word {
        String told;
        int spelling;
        boolean ends;
    }

    static final class SetWord {
        int number;
        String form;
        boolean isLong;
        int blanksBehind = 1;
        List<Place> places = new ArrayList<>();
    }

    static final class SetLine {
        List<SetWord> words = new ArrayList<>();
        boolean endedAhead;
        int empty;
    }

    static final class Place {
        int wanted;
        Piece piece;
        boolean turned;
        boolean turnedFromOwnBox;
    }

    static final class SetPage {
        int hand = -1;
        int words;
        int through;
        boolean crowded;
        int leftOut;
        List<SetLine> lines = new ArrayList<>();
        List<Place> places = new ArrayList<>();
    }

    static final class PageOnSheet {
        int state;
        List<String> lines;
    }

    static final class HeapSheet {
        int number;
        int mark;
        Map<Integer, PageOnSheet> pages = new HashMap<>();
    }

    static final class Leaf {
        HeapSheet sheet;
    }

    static final class FormeOfBook {
        int how;
        int skeleton = -1;
        List<Integer> pages = new ArrayList<>();
        boolean ready;
        int printed;
        int states = 1;
        int printedInLast;
        int onHour = -1;
        int doneHour = -1;
        boolean turnedHeap;
        Map<Integer, Integer> wornWhenDone = new HashMap<>();
    }

    static final class SheetOfBook {
        List<HeapSheet> heap;
        int turn;
    }

    static final class Volume {
        int format;
        int measure;
        int lines;
        int edition;
        List<Word> copy = new ArrayList<>();
        int percent = -1;
        List<SetPage> pages = new ArrayList<>();
        List<FormeOfBook> formes = new ArrayList<>();
        List<SheetOfBook> sheets = new ArrayList<>();
        Leaf[][] copies;
    }

    /** All orders that fit, and of each two formes in how many of these the first one is ahead. */
    static final class Orders {
        int many;
        int[][] ahead;
    }

    static final class PressOfHouse {
        int men = 1;
        Volume book;
        int forme;
        int sheets;
        int hours;
    }

    private final StringBuilder tape = new StringBuilder();
    private final List<Spelling> spellings = new ArrayList<>();
    private final List<Piece> pieces = new ArrayList<>();
    private final List<List<Piece>> boxes = new ArrayList<>();
    private final List<HandMan> handMen = new ArrayList<>();
    private final List<Volume> volumes = new ArrayList<>();
    private final PressOfHouse[] pressList = {new PressOfHouse(), new PressOfHouse(), new PressOfHouse()};
    private final int[] takenOfStock = new int[4];
    private final Map<String, Integer> knownHands = new HashMap<>();
    private static final Map<String, Orders> KNOWN_ORDERS = new HashMap<>();
    private int stock;
    private int hourNow;

    public ModelHouse() {
        for (int i = 0; i < 28; i++) {
            boxes.add(new ArrayList<>());
        }
    }

    private static void bad(boolean is) {
        if (is) {
            throw new IllegalArgumentException();
        }
    }

    private static void none(boolean is) {
        if (is) {
            throw new IndexOutOfBoundsException();
        }
    }

    private static void not(boolean is) {
        if (is) {
            throw new IllegalStateException();
        }
    }

    private static boolean out(int value, int from, int to) {
        return value < from || value > to;
    }

    private static boolean isText(String s) {
        return s.matches("[a-z]{1,8}([ /][a-z]{1,8})*");
    }

    // ---- the tape, words

    public int type(long characters, int n) {
        bad(out(n, 1, 8));
        StringBuilder more = new StringBuilder();
        for (int i = 0; i < n; i++) {
            more.append((char) ((characters >> (8 * i)) & 0xff));
        }
        bad(!more.toString().matches("[a-z /]*"));
        not(tape.length() + n > 40);
        tape.append(more);
        return tape.length();
    }

    public int wipe() {
        int had = tape.length();
        tape.setLength(0);
        return had;
    }

    public int fault() {
        String s = tape.toString();
        for (int i = 0; i < s.length(); i++) {
            if (!s.substring(0, i + 1).matches("([a-z]{1,8}[ /])*[a-z]{0,8}")) {
                return i;
            }
        }
        return isText(s) ? -1 : s.length();
    }

    private int spellingWith(String word) {
        for (int i = 0; i < spellings.size(); i++) {
            if (spellings.get(i).brief.equals(word) || spellings.get(i).full.equals(word)) {
                return i;
            }
        }
        return -1;
    }

    public int spelling() {
        String s = tape.toString();
        bad(!s.matches("[a-z]{1,8} [a-z]{1,8}"));
        String[] both = s.split(" ");
        bad(out(both[1].length() - both[0].length(), 1, 3));
        bad(spellingWith(both[0]) >= 0 || spellingWith(both[1]) >= 0);
        not(spellings.size() == 6 || volumes.stream().anyMatch(v -> !v.copy.isEmpty()));
        Spelling made = new Spelling();
        made.brief = both[0];
        made.full = both[1];
        spellings.add(made);
        tape.setLength(0);
        return spellings.size() - 1;
    }

    // ---- type, hands

    private void putOnTop(Piece piece, int sort) {
        boxes.get(sort).add(0, piece);
        piece.box = boxes.get(sort);
        piece.where = sort;
    }

    private Piece takeTop(int sort, int where) {
        if (boxes.get(sort).isEmpty()) {
            return null;
        }
        Piece piece = boxes.get(sort).remove(0);
        piece.box = null;
        piece.where = where;
        return piece;
    }

    public int cast(int sort, int many) {
        bad(out(sort, 0, 27) || out(many, 1, 40));
        not(pieces.size() + many > 400);
        for (int i = 0; i < many; i++) {
            Piece piece = new Piece();
            piece.number = pieces.size();
            piece.sort = sort;
            pieces.add(piece);
            putOnTop(piece, sort);
        }
        return pieces.size();
    }

    public int wear(int piece) {
        none(out(piece, 0, pieces.size() - 1));
        not(pieces.get(piece).worn == 3);
        return ++pieces.get(piece).worn;
    }

    public int piece(int piece, int what) {
        none(out(piece, 0, pieces.size() - 1));
        bad(out(what, 0, 2));
        Piece its = pieces.get(piece);
        return what == 0 ? its.sort : what == 1 ? its.worn : its.where;
    }

    public int box(int sort, int place) {
        bad(out(sort, 0, 27));
        none(place < 0);
        return place < boxes.get(sort).size() ? boxes.get(sort).get(place).number : -1;
    }

    public int hand(int likes, int drops, int skips) {
        bad(out(likes, 0, 63) || out(drops, 0, 9) || out(skips, 0, 9));
        not(handMen.size() == 4);
        HandMan man = new HandMan();
        man.likes = likes;
        man.drops = drops;
        man.skips = skips;
        handMen.add(man);
        return handMen.size() - 1;
    }

    // ---- books, pages

    public int book(int format, int sheets, int measure, int lines, int edition) {
        bad(format != 2 && format != 4 && format != 8);
        bad(sheets < 1 || (long) sheets * 2 * format > 16);
        bad(out(measure, 10, 24) || out(lines, 1, 6) || out(edition, 2, 24));
        not(volumes.size() == 3);
        Volume v = new Volume();
        v.format = format;
        v.measure = measure;
        v.lines = lines;
        v.edition = edition;
        for (int s = 0; s < sheets; s++) {
            v.sheets.add(new SheetOfBook());
            FormeOfBook outer = new FormeOfBook();
            FormeOfBook inner = new FormeOfBook();
            for (int i = 1; i <= 2 * format; i++) {
                (i % 4 == 0 || i % 4 == 1 ? outer : inner).pages.add(v.pages.size());
                v.pages.add(new SetPage());
            }
            v.formes.add(outer);
            v.formes.add(inner);
        }
        volumes.add(v);
        return volumes.size() - 1;
    }

    private Volume volume(int book) {
        none(out(book, 0, volumes.size() - 1));
        return volumes.get(book);
    }

    private SetPage pageOf(Volume v, int page) {
        none(out(page, 0, v.pages.size() - 1));
        return v.pages.get(page);
    }

    private FormeOfBook formeOf(Volume v, int forme) {
        none(out(forme, 0, v.formes.size() - 1));
        return v.formes.get(forme);
    }

    private static int formeWith(Volume v, int page) {
        for (int f = 0; f < v.formes.size(); f++) {
            if (v.formes.get(f).pages.contains(page)) {
                return f;
            }
        }
        throw new IllegalStateException("no forme with the page");
    }

    private static boolean anySet(Volume v) {
        return v.pages.stream().anyMatch(p -> p.hand >= 0);
    }

    private void addWord(Volume v, String told, boolean ends) {
        Word w = new Word();
        w.told = told;
        w.spelling = spellingWith(told);
        w.ends = ends;
        v.copy.add(w);
    }

    public int copy(int book) {
        Volume v = volume(book);
        String s = tape.toString();
        bad(!isText(s));
        String[] all = s.split("[ /]");
        not(v.copy.size() + all.length > 60 || v.percent >= 0 || anySet(v));
        int at = 0;
        for (String word : all) {
            at += word.length() + 1;
            addWord(v, word, at > s.length() || s.charAt(at - 1) == '/');
        }
        tape.setLength(0);
        return v.copy.size();
    }

    public int follow(int book, int other) {
        Volume v = volume(book);
        Volume o = volume(other);
        bad(book == other);
        int onPages = 0;
        for (SetPage p : o.pages) {
            onPages += p.words;
        }
        not(!v.copy.isEmpty() || onPages == 0);
        for (SetPage p : o.pages) {
            for (SetLine l : p.lines) {
                for (int i = 0; i < l.words.size(); i++) {
                    addWord(v, l.words.get(i).form, i == l.words.size() - 1);
                }
            }
        }
        return v.copy.size();
    }

    private static int beginOfPart(Volume v, int page) {
        if (v.percent < 0) {
            if (page == 0) {
                return 0;
            }
            SetPage ahead = v.pages.get(page - 1);
            return ahead.hand < 0 ? -1 : ahead.through;
        }
        int holds = Math.max(1, v.measure * v.lines * v.percent / 100);
        for (int w = 0; w < v.copy.size(); w++) {
            int units = 0;
            for (int i = 0; i < w; i++) {
                units += v.copy.get(i).told.length() + 1;
            }
            if (units >= page * holds) {
                return w;
            }
        }
        return v.copy.size();
    }

    private static int endOfPart(Volume v, int page) {
        return v.percent < 0 || page == v.pages.size() - 1 ? v.copy.size() : beginOfPart(v, page + 1);
    }

    public int castOff(int book, int percent) {
        Volume v = volume(book);
        bad(out(percent, 50, 150));
        not(v.copy.isEmpty() || v.percent >= 0 || anySet(v));
        v.percent = percent;
        return beginOfPart(v, v.pages.size() - 1);
    }

    private static int unitsOf(SetLine line) {
        int units = 0;
        for (int i = 0; i < line.words.size(); i++) {
            units += line.words.get(i).form.length() + (i > 0 ? line.words.get(i - 1).blanksBehind : 0);
        }
        return units;
    }

    /** Sets the page once; returns the word behind those through which it went. */
    private int attempt(Volume v, SetPage p, HandMan man, int begin, int end, boolean crowded) {
        p.lines.clear();
        int at = begin;
        while (p.lines.size() < v.lines && at < end) {
            SetLine line = new SetLine();
            p.lines.add(line);
            while (true) {
                if (at >= end) {
                    break;
                }
                Word w = v.copy.get(at);
                List<String> forms = new ArrayList<>();
                if (w.spelling < 0) {
                    forms.add(w.told);
                } else {
                    if (!crowded && ((man.likes >> w.spelling) & 1) == 1) {
                        forms.add(spellings.get(w.spelling).full);
                    }
                    forms.add(spellings.get(w.spelling).brief);
                }
                SetWord put = null;
                for (String form : forms) {
                    SetWord tried = new SetWord();
                    tried.number = at;
                    tried.form = form;
                    tried.isLong = w.spelling >= 0 && spellings.get(w.spelling).full.equals(form);
                    line.words.add(tried);
                    if (unitsOf(line) <= v.measure) {
                        put = tried;
                        break;
                    }
                    line.words.remove(line.words.size() - 1);
                }
                if (put == null) {
                    line.endedAhead = true;
                    break;
                }
                int next = at + 1;
                for (int j = at + 1; j <= at + 4 && j < end; j++) {
                    if (v.copy.get(j).told.equals(w.told)) {
                        man.chances++;
                        if (man.skips != 0 && man.chances % man.skips == 0) {
                            next = j + 1;
                        }
                        break;
                    }
                }
                at = next;
                if (w.ends) {
                    break;
                }
            }
        }
        return at;
    }

    private void fillOut(Volume v, SetPage p, SetLine line) {
        int left = v.measure - unitsOf(line);
        if (line.endedAhead) {
            boolean gave = true;
            while (left > 0 && gave) {
                gave = false;
                for (int i = 0; i + 1 < line.words.size(); i++) {
                    if (left > 0 && line.words.get(i).blanksBehind < 3) {
                        line.words.get(i).blanksBehind++;
                        left--;
                        gave = true;
                    }
                }
            }
            for (SetWord w : line.words) {
                int spelling = v.copy.get(w.number).spelling;
                if (!p.crowded && spelling >= 0 && !w.isLong) {
                    Spelling s = spellings.get(spelling);
                    if (s.full.length() - s.brief.length() <= left) {
                        left -= s.full.length() - s.brief.length();
                        w.form = s.full;
                        w.isLong = true;
                    }
                }
            }
        }
        line.empty = v.measure - unitsOf(line);
    }

    private void fillPlaces(SetPage p, int where) {
        String twins = "nubqdp";
        String turnedTwins = "unqbpd";
        for (SetLine line : p.lines) {
            for (SetWord w : line.words) {
                for (int i = 0; i < w.form.length(); i++) {
                    Place place = new Place();
                    place.wanted = w.form.charAt(i) - 'a';
                    if (w.form.startsWith("fi", i) && !boxes.get(26).isEmpty()) {
                        place.wanted = 26;
                        i++;
                    } else if (w.form.startsWith("fl", i) && !boxes.get(27).isEmpty()) {
                        place.wanted = 27;
                        i++;
                    }
                    place.piece = takeTop(place.wanted, where);
                    int twin = place.wanted < 26 ? twins.indexOf('a' + place.wanted) : -1;
                    if (place.piece == null && twin >= 0) {
                        int sort = turnedTwins.charAt(twin) - 'a';
                        place.piece = takeTop(sort, where);
                        place.turned = place.piece != null;
                        place.turnedFromOwnBox = place.turned && place.piece.sort == sort;
                    }
                    w.places.add(place);
                    p.places.add(place);
                }
            }
        }
    }

    public int set(int book, int page, int hand) {
        Volume v = volume(book);
        SetPage p = pageOf(v, page);
        none(out(hand, 0, handMen.size() - 1));
        not(v.copy.isEmpty() || p.hand >= 0 || beginOfPart(v, page) < 0);
        HandMan man = handMen.get(hand);
        int begin = beginOfPart(v, page);
        int end = endOfPart(v, page);
        int chances = man.chances;
        p.through = attempt(v, p, man, begin, end, false);
        if (v.percent >= 0 && p.through < end) {
            man.chances = chances;
            p.crowded = true;
            p.through = attempt(v, p, man, begin, end, true);
            p.leftOut = end - p.through;
        }
        p.hand = hand;
        for (SetLine line : p.lines) {
            fillOut(v, p, line);
            p.words += line.words.size();
        }
        fillPlaces(p, 100 + 100 * book + page);
        int empty = (int) p.places.stream().filter(x -> x.piece == null).count();
        man.taken += p.places.size() - empty;
        return empty;
    }

    public int page(int book, int page, int what) {
        Volume v = volume(book);
        SetPage p = pageOf(v, page);
        bad(out(what, 0, 8));
        int forme = formeWith(v, page);
        if (what == 0) {
            return forme;
        }
        FormeOfBook f = v.formes.get(forme);
        if (what == 8) {
            return f.how == 0 ? -1 : 8 * f.skeleton + f.pages.indexOf(page);
        }
        if (p.hand < 0) {
            return -1;
        }
        int[] told = {0, p.hand, p.words, p.through, p.crowded ? 1 : 0, p.leftOut, p.places.size(), p.lines.size()};
        return told[what];
    }

    public int line(int book, int page, int line, int what) {
        Volume v = volume(book);
        SetPage p = pageOf(v, page);
        none(line < 0);
        bad(out(what, 0, 4));
        if (p.hand < 0 || line >= p.lines.size()) {
            return -1;
        }
        SetLine l = p.lines.get(line);
        int set = 0;
        for (SetWord w : l.words) {
            if (w.isLong) {
                set |= 1 << v.copy.get(w.number).spelling;
            }
        }
        int last = l.words.get(l.words.size() - 1).number;
        return new int[] {l.words.size(), last, l.empty, l.endedAhead ? 1 : 0, set}[what];
    }

    public int place(int book, int page, int place, int what) {
        Volume v = volume(book);
        SetPage p = pageOf(v, page);
        none(place < 0);
        bad(out(what, 0, 2));
        if (p.hand < 0 || place >= p.places.size()) {
            return -1;
        }
        Place x = p.places.get(place);
        boolean gone = v.formes.get(formeWith(v, page)).how == 4;
        if (what == 0) {
            return gone || x.piece == null ? -1 : x.piece.number;
        }
        return what == 1 ? x.wanted : !gone && x.turned ? 1 : 0;
    }

    // ---- formes, presses

    public void lock(int book, int forme, int skeleton) {
        FormeOfBook f = formeOf(volume(book), forme);
        bad(out(skeleton, 0, 5));
        boolean unset = false;
        for (int page : f.pages) {
            unset |= volume(book).pages.get(page).hand < 0;
        }
        boolean used = false;
        for (Volume v : volumes) {
            for (FormeOfBook g : v.formes) {
                used |= g.how >= 1 && g.how <= 3 && g.skeleton == skeleton;
            }
        }
        not(f.how != 0 || unset || used);
        f.how = 1;
        f.skeleton = skeleton;
    }

    public void print(int press, int book, int forme) {
        none(out(press, 0, 2));
        Volume v = volume(book);
        FormeOfBook f = formeOf(v, forme);
        not(pressList[press].book != null || f.how != 1 || v.formes.get(forme ^ 1).how == 2);
        SheetOfBook s = v.sheets.get(forme / 2);
        if (s.heap == null) {
            s.heap = new ArrayList<>();
            for (int i = 0; i < v.edition; i++) {
                HeapSheet sheet = new HeapSheet();
                sheet.number = i;
                sheet.mark = 2 * stock + takenOfStock[stock] % 2;
                takenOfStock[stock]++;
                s.heap.add(sheet);
            }
        } else {
            f.turnedHeap = true;
        }
        f.how = 2;
        f.onHour = hourNow;
        pressList[press].book = v;
        pressList[press].forme = forme;
    }

    public int men(int press, int many) {
        none(out(press, 0, 2));
        bad(out(many, 0, 2));
        int had = pressList[press].men;
        pressList[press].men = many;
        return had;
    }

    private static String rendered(Place place, boolean asWanted) {
        int sort = place.wanted;
        if (!asWanted) {
            if (place.piece == null) {
                return ".";
            }
            sort = place.turned && place.turnedFromOwnBox ? place.wanted : place.piece.sort;
        }
        return sort == 26 ? "fi" : sort == 27 ? "fl" : String.valueOf((char) ('a' + sort));
    }

    private static List<String> rendered(SetPage p, boolean asWanted) {
        List<String> lines = new ArrayList<>();
        for (SetLine l : p.lines) {
            StringBuilder s = new StringBuilder();
            for (int i = 0; i < l.words.size(); i++) {
                if (i > 0) {
                    s.append(" ".repeat(l.words.get(i - 1).blanksBehind));
                }
                for (Place place : l.words.get(i).places) {
                    s.append(rendered(place, asWanted));
                }
            }
            lines.add(s.toString());
        }
        return lines;
    }

    private void printOne(Volume v, FormeOfBook f, int forme) {
        SheetOfBook s = v.sheets.get(forme / 2);
        HeapSheet sheet = s.heap.get(f.turnedHeap ? v.edition - 1 - f.printed : f.printed);
        for (int page : f.pages) {
            PageOnSheet on = new PageOnSheet();
            on.state = f.states - 1;
            on.lines = rendered(v.pages.get(page), false);
            sheet.pages.put(page, on);
        }
        f.printed++;
        f.printedInLast++;
    }

    public int pass(int hours) {
        bad(out(hours, 1, 70));
        not(hourNow + hours > 5000);
        int done = 0;
        for (int i = 0; i < hours; i++, hourNow++) {
            if (hourNow / 10 % 7 == 6) {
                continue;
            }
            for (PressOfHouse p : pressList) {
                if (p.men == 0 || p.book == null) {
                    continue;
                }
                p.hours++;
                FormeOfBook f = p.book.formes.get(p.forme);
                if (!f.ready) {
                    f.ready = true;
                    continue;
                }
                for (int m = 0; m < p.men && f.printed < p.book.edition; m++) {
                    printOne(p.book, f, p.forme);
                    p.sheets++;
                }
                if (f.printed == p.book.edition) {
                    f.how = 3;
                    f.doneHour = hourNow;
                    for (int page : f.pages) {
                        for (Place x : p.book.pages.get(page).places) {
                            if (x.piece != null) {
                                f.wornWhenDone.put(x.piece.number, x.piece.worn);
                            }
                        }
                    }
                    p.book = null;
                    done++;
                }
            }
        }
        return done;
    }

    public int hour() {
        return hourNow;
    }

    public int forme(int book, int forme, int what) {
        FormeOfBook f = formeOf(volume(book), forme);
        bad(out(what, 0, 4));
        return new int[] {f.how, f.how == 0 ? -1 : f.skeleton, f.printed, f.states, f.doneHour}[what];
    }

    public int correct(int book, int page, int place) {
        Volume v = volume(book);
        SetPage p = pageOf(v, page);
        none(p.hand < 0 || out(place, 0, p.places.size() - 1));
        FormeOfBook f = v.formes.get(formeWith(v, page));
        Place x = p.places.get(place);
        not(f.how != 1 && f.how != 2 || boxes.get(x.wanted).isEmpty());
        Piece other = takeTop(x.wanted, 100 + 100 * book + page);
        if (x.piece != null) {
            putOnTop(x.piece, x.piece.sort);
        }
        x.piece = other;
        x.turned = false;
        x.turnedFromOwnBox = false;
        if (f.printedInLast > 0) {
            f.states++;
            f.printedInLast = 0;
        }
        return f.states - 1;
    }

    public int putAway(int book, int forme, int hand) {
        Volume v = volume(book);
        FormeOfBook f = formeOf(v, forme);
        none(out(hand, 0, handMen.size() - 1));
        not(f.how != 3);
        HandMan man = handMen.get(hand);
        int many = 0;
        for (int page : f.pages) {
            for (Place x : v.pages.get(page).places) {
                if (x.piece != null) {
                    man.put++;
                    many++;
                    boolean wrong = man.drops != 0 && man.put % man.drops == 0;
                    putOnTop(x.piece, wrong ? (x.piece.sort == 27 ? 0 : x.piece.sort + 1) : x.piece.sort);
                }
            }
        }
        f.how = 4;
        return many;
    }

    // ---- paper, copies

    public int paper(int told) {
        none(out(told, 0, 3));
        stock = told;
        return takenOfStock[told];
    }

    public void lay(int book, int sheet, int turn) {
        Volume v = volume(book);
        none(out(sheet, 0, v.sheets.size() - 1));
        bad(out(turn, 0, v.edition - 1));
        not(v.copies != null);
        v.sheets.get(sheet).turn = turn;
    }

    public int bind(int book) {
        Volume v = volume(book);
        not(v.copies != null || v.formes.stream().anyMatch(f -> f.how < 3));
        int leaves = v.sheets.size() * v.format;
        v.copies = new Leaf[v.edition][leaves];
        for (int c = 0; c < v.edition; c++) {
            for (int l = 0; l < leaves; l++) {
                SheetOfBook s = v.sheets.get(l / v.format);
                v.copies[c][l] = new Leaf();
                v.copies[c][l].sheet = s.heap.get((c + s.turn) % v.edition);
            }
        }
        return v.edition;
    }

    private static int leavesOf(Volume v) {
        return v.sheets.size() * v.format;
    }

    public void exchange(int book, int one, int other, int leaf) {
        Volume v = volume(book);
        none(out(one, 0, v.edition - 1) || out(other, 0, v.edition - 1) || out(leaf, 0, leavesOf(v) - 1));
        not(v.copies == null);
        Leaf kept = v.copies[one][leaf];
        v.copies[one][leaf] = v.copies[other][leaf];
        v.copies[other][leaf] = kept;
    }

    public int cancel(int book, int copy, int leaf) {
        Volume v = volume(book);
        none(out(copy, 0, v.edition - 1) || out(leaf, 0, leavesOf(v) - 1));
        not(v.copies == null);
        int many = 0;
        for (int c = copy; c < v.edition; c++) {
            if (v.copies[c][leaf].sheet != null) {
                v.copies[c][leaf] = new Leaf();
                many++;
            }
        }
        return many;
    }

    private static int stateIn(Volume v, int copy, int page) {
        HeapSheet sheet = v.copies[copy][page / 2].sheet;
        return sheet == null ? -1 : sheet.pages.get(page).state;
    }

    public int state(int book, int copy, int page) {
        Volume v = volume(book);
        none(out(copy, 0, v.edition - 1) || out(page, 0, v.pages.size() - 1));
        not(v.copies == null);
        return stateIn(v, copy, page);
    }

    public int mark(int book, int copy, int leaf) {
        Volume v = volume(book);
        none(out(copy, 0, v.edition - 1) || out(leaf, 0, leavesOf(v) - 1));
        not(v.copies == null);
        return v.copies[copy][leaf].sheet == null ? -1 : v.copies[copy][leaf].sheet.mark;
    }

    public int character(int book, int copy, int page, int line, int place) {
        Volume v = volume(book);
        none(out(copy, 0, v.edition - 1) || out(page, 0, v.pages.size() - 1) || line < 0 || place < 0);
        not(v.copies == null);
        HeapSheet sheet = v.copies[copy][page / 2].sheet;
        List<String> lines = sheet == null ? rendered(v.pages.get(page), true) : sheet.pages.get(page).lines;
        return line < lines.size() && place < lines.get(line).length() ? lines.get(line).charAt(place) : -1;
    }

    public int alike(int book, int copy) {
        Volume v = volume(book);
        none(out(copy, 0, v.edition - 1));
        not(v.copies == null);
        int many = 0;
        for (int c = 0; c < v.edition; c++) {
            boolean same = true;
            for (int p = 0; p < v.pages.size(); p++) {
                same &= stateIn(v, c, p) == stateIn(v, copy, p);
            }
            many += same ? 1 : 0;
        }
        return many;
    }

    public int madeUp(int book, int copy) {
        Volume v = volume(book);
        none(out(copy, 0, v.edition - 1));
        not(v.copies == null);
        int many = 0;
        for (int s = 0; s < v.sheets.size(); s++) {
            Set<Integer> numbers = new HashSet<>();
            for (int l = 0; l < leavesOf(v); l++) {
                if (l / v.format == s && v.copies[copy][l].sheet != null) {
                    numbers.add(v.copies[copy][l].sheet.number);
                }
            }
            many += numbers.size() > 1 ? 1 : 0;
        }
        return many;
    }

    // ---- the scholar

    private static int seen(FormeOfBook f, int piece) {
        return f.wornWhenDone.getOrDefault(piece, 0);
    }

    public int shared(int book, int one, int other) {
        Volume v = volume(book);
        FormeOfBook a = formeOf(v, one);
        FormeOfBook b = formeOf(v, other);
        bad(one == other);
        int many = a.how != 0 && b.how != 0 && a.skeleton == b.skeleton ? 1000 : 0;
        for (int p = 0; p < pieces.size(); p++) {
            many += seen(a, p) > 0 && seen(b, p) > 0 ? 1 : 0;
        }
        return many;
    }

    private boolean surelyAhead(FormeOfBook a, FormeOfBook b) {
        for (int p = 0; p < pieces.size(); p++) {
            if (seen(a, p) > 0 && seen(b, p) > 0 && seen(a, p) < seen(b, p)) {
                return true;
            }
        }
        return false;
    }

    private Orders fittingOrders(Volume v) {
        int n = v.formes.size();
        boolean[][] ahead = new boolean[n][n];
        for (int a = 0; a < n; a++) {
            for (int b = 0; b < n; b++) {
                ahead[a][b] = a != b && surelyAhead(v.formes.get(a), v.formes.get(b));
            }
        }
        return KNOWN_ORDERS.computeIfAbsent(Arrays.deepToString(ahead), key -> {
            Orders found = new Orders();
            found.ahead = new int[n][n];
            permute(ahead, new ArrayList<>(), found);
            return found;
        });
    }

    private static void permute(boolean[][] ahead, List<Integer> row, Orders found) {
        if (row.size() == ahead.length) {
            for (int i = 0; i < row.size(); i++) {
                for (int j = 0; j < i; j++) {
                    if (ahead[row.get(i)][row.get(j)]) {
                        return;
                    }
                }
            }
            found.many++;
            for (int i = 0; i < row.size(); i++) {
                for (int j = 0; j < i; j++) {
                    found.ahead[row.get(j)][row.get(i)]++;
                }
            }
            return;
        }
        for (int f = 0; f < ahead.length; f++) {
            if (!row.contains(f)) {
                row.add(f);
                permute(ahead, row, found);
                row.remove(row.size() - 1);
            }
        }
    }

    public int orders(int book) {
        return fittingOrders(volume(book)).many;
    }

    public int ordersAnew(int book) {
        return fittingOrders(volume(book)).many;
    }

    public int ahead(int book, int one, int other) {
        Volume v = volume(book);
        none(out(one, 0, v.formes.size() - 1) || out(other, 0, v.formes.size() - 1));
        bad(one == other);
        Orders fitting = fittingOrders(v);
        int in = fitting.ahead[one][other];
        return in == fitting.many ? 1 : in > 0 ? 0 : -1;
    }

    public int hands(int book) {
        Volume v = volume(book);
        List<Set<String>> loose = new ArrayList<>();
        for (SetPage p : v.pages) {
            if (p.hand < 0) {
                continue;
            }
            Set<String> forms = new HashSet<>();
            for (SetLine l : p.lines) {
                if (!l.endedAhead && l.empty >= 3 && !p.crowded) {
                    for (SetWord w : l.words) {
                        if (v.copy.get(w.number).spelling >= 0) {
                            forms.add(w.form);
                        }
                    }
                }
            }
            loose.add(forms);
        }
        if (loose.isEmpty()) {
            return 0;
        }
        loose.removeIf(Set::isEmpty);
        return Math.max(1, knownHands.computeIfAbsent(loose.toString(), key -> fewest(loose)));
    }

    private boolean unlike(Set<String> one, Set<String> other) {
        for (Spelling s : spellings) {
            if (one.contains(s.brief) && other.contains(s.full) || one.contains(s.full) && other.contains(s.brief)) {
                return true;
            }
        }
        return false;
    }

    /** The least number of parts, for each set of pages from those for its smaller sets. */
    private int fewest(List<Set<String>> pages) {
        int n = pages.size();
        boolean[] canBeOne = new boolean[1 << n];
        int[] least = new int[1 << n];
        for (int set = 1; set < 1 << n; set++) {
            canBeOne[set] = true;
            for (int a = 0; a < n && canBeOne[set]; a++) {
                for (int b = 0; b < a; b++) {
                    if ((set >> a & 1) == 1 && (set >> b & 1) == 1 && unlike(pages.get(a), pages.get(b))) {
                        canBeOne[set] = false;
                    }
                }
            }
            least[set] = 99;
            for (int part = set; part > 0; part = (part - 1) & set) {
                if (canBeOne[part]) {
                    least[set] = Math.min(least[set], least[set ^ part] + 1);
                }
            }
        }
        return least[(1 << n) - 1];
    }

    public int presses(int book) {
        Volume v = volume(book);
        int from = 99999;
        int to = -1;
        double needed = 0;
        for (FormeOfBook f : v.formes) {
            if (f.how >= 3) {
                from = Math.min(from, f.onHour);
                to = Math.max(to, f.doneHour);
                needed += 1 + Math.ceil(v.edition / 2.0);
            }
        }
        int hours = 0;
        for (int h = from; h <= to; h++) {
            hours += h / 10 % 7 == 6 ? 0 : 1;
        }
        return needed == 0 ? 0 : (int) Math.ceil(needed / hours);
    }

    private static List<Word> lastWords(Volume v) {
        List<Word> last = new ArrayList<>();
        for (SetPage p : v.pages) {
            for (SetLine l : p.lines) {
                last.add(v.copy.get(l.words.get(l.words.size() - 1).number));
            }
        }
        return last;
    }

    public int follows(int book, int other) {
        List<Word> mine = lastWords(volume(book));
        List<Word> theirs = lastWords(volume(other));
        int many = 0;
        for (int i = 0; i < mine.size() && i < theirs.size(); i++) {
            Word a = mine.get(i);
            Word b = theirs.get(i);
            if (a.told.equals(b.told) || a.spelling >= 0 && a.spelling == b.spelling) {
                many++;
            }
        }
        return many;
    }

    public int account(int what, int who) {
        bad(out(what, 0, 4));
        if (what < 2) {
            none(out(who, 0, handMen.size() - 1));
            return what == 0 ? handMen.get(who).taken : handMen.get(who).put;
        }
        if (what < 4) {
            none(out(who, 0, 2));
            return what == 2 ? pressList[who].sheets : pressList[who].hours;
        }
        none(out(who, 0, 3));
        return takenOfStock[who];
    }
}
