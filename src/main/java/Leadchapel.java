/**
 * A printing house of lead and a scholar who reads its books backwards; the document is ../shared/DOC.md.
 *
 * <p>Words are held as longs with a letter in each 8 bits, the first one lowest, so that the same word is the same
 * number and no texts are made. All rows are made in constructors: a call makes no object but a hand or a book.
 */
public final class Leadchapel {
    public static final int NONE = -1;
    public static final int OPEN = 0, LOCKED = 1, ON = 2, DONE = 3, GONE = 4;

    private static final int MOST_SIGNS = 40;
    private static final int MOST_LETTERS = 8;
    private static final int MOST_SPELLINGS = 6;
    private static final int SORTS = 28;
    private static final int FI = 26;
    private static final int FL = 27;
    private static final int MOST_PIECES = 400;
    private static final int MOST_WORN = 3;
    private static final int MOST_HANDS = 4;
    private static final int MOST_BOOKS = 3;
    private static final int MOST_LEAVES = 8;
    private static final int MOST_PAGES = 16;
    private static final int MOST_FORMES = 8;
    private static final int MOST_WORDS = 60;
    private static final int MOST_BLANK = 3;
    private static final int NEXT_WORDS = 4;
    private static final int SKELETONS = 6;
    private static final int TITLES = 8;
    private static final int PRESSES = 3;
    private static final int MOST_MEN = 2;
    private static final int STOCKS = 4;
    private static final int DAY = 10;
    private static final int WEEK = 70;
    private static final int LAST_HOUR = 5000;

    private final Words words;
    private final Cases cases;
    private final Hand[] staff;
    private final Book[] shelf;
    private final Press[] pressRoom;
    private final int[] sheetsTaken;
    private final Scholar scholar;
    private int handCount;
    private int bookCount;
    private int stock;
    private int now;

    public Leadchapel() {
        words = new Words();
        cases = new Cases();
        staff = new Hand[MOST_HANDS];
        shelf = new Book[MOST_BOOKS];
        pressRoom = new Press[PRESSES];
        for (int press = 0; press < PRESSES; press++) {
            pressRoom[press] = new Press();
        }
        sheetsTaken = new int[STOCKS];
        scholar = new Scholar();
    }

    // ---- the tape, words

    public int type(long characters, int n) throws IllegalArgumentException, IllegalStateException {
        requireArgument(n >= 1 && n <= MOST_LETTERS);
        for (int at = 0; at < n; at++) {
            requireArgument(isSign(letterAt(characters, at)));
        }
        requireState(words.length + n <= MOST_SIGNS);
        for (int at = 0; at < n; at++) {
            words.add(letterAt(characters, at));
        }
        return words.length;
    }

    public int wipe() {
        int had = words.length;
        words.length = 0;
        return had;
    }

    public int fault() {
        return words.faultPlace();
    }

    public int spelling() throws IllegalArgumentException, IllegalStateException {
        requireArgument(words.isPair());
        long brief = words.split[0];
        long full = words.split[1];
        int more = letters(full) - letters(brief);
        requireArgument(more >= 1 && more <= 3);
        requireArgument(words.spellingOf(brief) == NONE && words.spellingOf(full) == NONE);
        requireState(words.spellings < MOST_SPELLINGS && !someBookHasCopy());
        words.length = 0;
        return words.addSpelling(brief, full);
    }

    // ---- type, hands

    public int cast(int sort, int many) throws IllegalArgumentException, IllegalStateException {
        requireArgument(isSort(sort) && many >= 1 && many <= 40);
        requireState(cases.count + many <= MOST_PIECES);
        for (int next = 0; next < many; next++) {
            cases.add(sort);
        }
        return cases.count;
    }

    public int wear(int piece) throws IndexOutOfBoundsException, IllegalStateException {
        requireIndex(cases.has(piece));
        requireState(cases.worn[piece] < MOST_WORN);
        cases.worn[piece]++;
        return cases.worn[piece];
    }

    public int piece(int piece, int what) throws IndexOutOfBoundsException, IllegalArgumentException {
        requireIndex(cases.has(piece));
        requireArgument(what >= 0 && what <= 2);
        switch (what) {
            case 0:
                return cases.sort[piece];
            case 1:
                return cases.worn[piece];
            default:
                return cases.where[piece];
        }
    }

    public int box(int sort, int place) throws IllegalArgumentException, IndexOutOfBoundsException {
        requireArgument(isSort(sort));
        requireIndex(place >= 0);
        return cases.pieceUnder(sort, place);
    }

    public int hand(int likes, int drops, int skips) throws IllegalArgumentException, IllegalStateException {
        requireArgument(likes >= 0 && likes <= 63);
        requireArgument(drops >= 0 && drops <= 9);
        requireArgument(skips >= 0 && skips <= 9);
        requireState(handCount < MOST_HANDS);
        staff[handCount] = new Hand(likes, drops, skips);
        handCount++;
        return handCount - 1;
    }

    // ---- books, pages

    public int book(int format, int sheets, int measure, int lines, int edition)
            throws IllegalArgumentException, IllegalStateException {
        requireArgument(format == 2 || format == 4 || format == 8);
        requireArgument(sheets >= 1 && sheets <= MOST_LEAVES / format);
        requireArgument(measure >= 10 && measure <= 24);
        requireArgument(lines >= 1 && lines <= 6);
        requireArgument(edition >= 2 && edition <= 24);
        requireState(bookCount < MOST_BOOKS);
        shelf[bookCount] = new Book(format, sheets, measure, lines, edition);
        bookCount++;
        return bookCount - 1;
    }

    public int copy(int book) throws IndexOutOfBoundsException, IllegalArgumentException, IllegalStateException {
        Book its = bookAt(book);
        requireArgument(words.isText());
        int more = words.splitText();
        requireState(its.text.count + more <= MOST_WORDS && !its.isCastOff && !its.hasSetPage());
        for (int word = 0; word < more; word++) {
            its.text.add(words.split[word], words.endsLine[word], words);
        }
        words.length = 0;
        return its.text.count;
    }

    public int follow(int book, int other)
            throws IndexOutOfBoundsException, IllegalArgumentException, IllegalStateException {
        Book its = bookAt(book);
        Book model = bookAt(other);
        requireArgument(book != other);
        requireState(its.text.count == 0 && model.wordsOnPages() > 0);
        for (Page page : model.pages) {
            its.text.addPage(page, model.text, words);
        }
        return its.text.count;
    }

    public int castOff(int book, int percent)
            throws IndexOutOfBoundsException, IllegalArgumentException, IllegalStateException {
        Book its = bookAt(book);
        requireArgument(percent >= 50 && percent <= 150);
        requireState(its.text.count > 0 && !its.isCastOff && !its.hasSetPage());
        its.partByUnits(percent);
        return its.firstWordOfPart(its.pages.length - 1);
    }

    public int set(int book, int page, int hand) throws IndexOutOfBoundsException, IllegalStateException {
        Book its = bookAt(book);
        Page sheetPage = pageOf(its, page);
        Hand compositor = handAt(hand);
        requireState(its.text.count > 0 && !sheetPage.isSet());
        int from = its.firstWordOfPart(page);
        requireState(from != NONE);
        sheetPage.compose(its.text, compositor, from, its.wordBehindPart(page), its.isCastOff);
        sheetPage.hand = hand;
        int empty = sheetPage.fillPlaces(its.text, cases, 100 + 100 * book + page);
        compositor.taken += sheetPage.places.count - empty;
        return empty;
    }

    public int page(int book, int page, int what) throws IndexOutOfBoundsException, IllegalArgumentException {
        Book its = bookAt(book);
        Page asked = pageOf(its, page);
        requireArgument(what >= 0 && what <= 8);
        if (what == 0) {
            return its.formeNumber(page);
        }
        return what == 8 ? its.runningTitle(page) : asked.told(what);
    }

    public int line(int book, int page, int line, int what) throws IndexOutOfBoundsException, IllegalArgumentException {
        Book its = bookAt(book);
        Page asked = pageOf(its, page);
        requireIndex(line >= 0);
        requireArgument(what >= 0 && what <= 4);
        if (line >= asked.lines) {
            return NONE;
        }
        switch (what) {
            case 0:
                return asked.wordBehindLine(line) - asked.firstWord[line];
            case 1:
                return asked.lastWord(line);
            case 2:
                return asked.missing[line];
            case 3:
                return asked.cut[line] ? 1 : 0;
            default:
                return asked.spellingsOf(its.text, line, true);
        }
    }

    public int place(int book, int page, int place, int what)
            throws IndexOutOfBoundsException, IllegalArgumentException {
        Places asked = pageOf(bookAt(book), page).places;
        requireIndex(place >= 0);
        requireArgument(what >= 0 && what <= 2);
        if (place >= asked.count) {
            return NONE;
        }
        switch (what) {
            case 0:
                return asked.piece[place];
            case 1:
                return asked.wanted[place];
            default:
                return asked.turned[place] ? 1 : 0;
        }
    }

    // ---- formes, presses

    public void lock(int book, int forme, int skeleton)
            throws IndexOutOfBoundsException, IllegalArgumentException, IllegalStateException {
        Forme its = formeOf(bookAt(book), forme);
        requireArgument(skeleton >= 0 && skeleton < SKELETONS);
        requireState(its.how == OPEN && its.allPagesSet() && !isInUse(skeleton));
        its.skeleton = skeleton;
        its.how = LOCKED;
    }

    public void print(int press, int book, int forme) throws IndexOutOfBoundsException, IllegalStateException {
        Press on = pressAt(press);
        Book its = bookAt(book);
        Forme printed = formeOf(its, forme);
        Sheet sheet = its.sheets[forme / 2];
        requireState(on.forme == null && printed.how == LOCKED && !sheet.isOnPress());
        if (sheet.isWhite()) {
            sheet.takeHeap(printed, stock, sheetsTaken[stock]);
            sheetsTaken[stock] += its.edition;
        }
        printed.how = ON;
        printed.onHour = now;
        on.forme = printed;
    }

    public int men(int press, int many) throws IndexOutOfBoundsException, IllegalArgumentException {
        Press its = pressAt(press);
        requireArgument(many >= 0 && many <= MOST_MEN);
        int had = its.crew;
        its.crew = many;
        return had;
    }

    public int pass(int hours) throws IllegalArgumentException, IllegalStateException {
        requireArgument(hours >= 1 && hours <= WEEK);
        requireState(now + hours <= LAST_HOUR);
        int done = 0;
        for (int gone = 0; gone < hours; gone++) {
            done += workAnHour();
            now++;
        }
        return done;
    }

    public int hour() {
        return now;
    }

    public int forme(int book, int forme, int what) throws IndexOutOfBoundsException, IllegalArgumentException {
        Forme its = formeOf(bookAt(book), forme);
        requireArgument(what >= 0 && what <= 4);
        switch (what) {
            case 0:
                return its.how;
            case 1:
                return its.skeleton;
            case 2:
                return its.printed;
            case 3:
                return its.states;
            default:
                return its.doneHour;
        }
    }

    public int correct(int book, int page, int place) throws IndexOutOfBoundsException, IllegalStateException {
        Book its = bookAt(book);
        Places places = pageOf(its, page).places;
        requireIndex(place >= 0 && place < places.count);
        Forme forme = its.formes[its.formeNumber(page)];
        requireState(forme.how == LOCKED || forme.how == ON);
        requireState(cases.top[places.wanted[place]] != NONE);
        forme.beginStateIfPrinted();
        places.replace(place, forme.states - 1, cases, 100 + 100 * book + page);
        return forme.states - 1;
    }

    public int putAway(int book, int forme, int hand) throws IndexOutOfBoundsException, IllegalStateException {
        Forme its = formeOf(bookAt(book), forme);
        Hand by = handAt(hand);
        requireState(its.how == DONE);
        int put = 0;
        for (Page page : its.pages) {
            put += page.places.clear(cases, by);
        }
        its.how = GONE;
        return put;
    }

    // ---- paper, copies

    public int paper(int stock) throws IndexOutOfBoundsException {
        requireIndex(stock >= 0 && stock < STOCKS);
        this.stock = stock;
        return sheetsTaken[stock];
    }

    public void lay(int book, int sheet, int turn)
            throws IndexOutOfBoundsException, IllegalArgumentException, IllegalStateException {
        Book its = bookAt(book);
        requireIndex(sheet >= 0 && sheet < its.sheets.length);
        requireArgument(turn >= 0 && turn < its.edition);
        requireState(!its.isBound);
        its.sheets[sheet].turn = turn;
    }

    public int bind(int book) throws IndexOutOfBoundsException, IllegalStateException {
        Book its = bookAt(book);
        requireState(!its.isBound && its.isPrinted());
        its.gather();
        return its.edition;
    }

    public void exchange(int book, int one, int other, int leaf)
            throws IndexOutOfBoundsException, IllegalStateException {
        Book its = bookAt(book);
        requireIndex(its.hasCopy(one) && its.hasCopy(other) && its.hasLeaf(leaf));
        requireState(its.isBound);
        int kept = its.leaves[one][leaf];
        its.leaves[one][leaf] = its.leaves[other][leaf];
        its.leaves[other][leaf] = kept;
    }

    public int cancel(int book, int copy, int leaf) throws IndexOutOfBoundsException, IllegalStateException {
        Book its = bookAt(book);
        requireIndex(its.hasCopy(copy) && its.hasLeaf(leaf));
        requireState(its.isBound);
        int cancelled = 0;
        for (int later = copy; later < its.edition; later++) {
            if (its.leaves[later][leaf] != NONE) {
                its.leaves[later][leaf] = NONE;
                cancelled++;
            }
        }
        return cancelled;
    }

    public int state(int book, int copy, int page) throws IndexOutOfBoundsException, IllegalStateException {
        Book its = bookAt(book);
        requireIndex(its.hasCopy(copy) && its.hasPage(page));
        requireState(its.isBound);
        return its.stateIn(copy, page);
    }

    public int mark(int book, int copy, int leaf) throws IndexOutOfBoundsException, IllegalStateException {
        Book its = bookAt(book);
        requireIndex(its.hasCopy(copy) && its.hasLeaf(leaf));
        requireState(its.isBound);
        int heapNumber = its.leaves[copy][leaf];
        return heapNumber == NONE ? NONE : its.sheets[leaf / its.format].moldOf(heapNumber);
    }

    public int character(int book, int copy, int page, int line, int place)
            throws IndexOutOfBoundsException, IllegalStateException {
        Book its = bookAt(book);
        requireIndex(its.hasCopy(copy) && its.hasPage(page));
        requireIndex(line >= 0 && place >= 0);
        requireState(its.isBound);
        return its.pages[page].printedSign(line, place, its.stateIn(copy, page));
    }

    public int alike(int book, int copy) throws IndexOutOfBoundsException, IllegalStateException {
        Book its = bookAt(book);
        requireIndex(its.hasCopy(copy));
        requireState(its.isBound);
        int many = 0;
        for (int other = 0; other < its.edition; other++) {
            if (its.hasSameStates(copy, other)) {
                many++;
            }
        }
        return many;
    }

    public int madeUp(int book, int copy) throws IndexOutOfBoundsException, IllegalStateException {
        Book its = bookAt(book);
        requireIndex(its.hasCopy(copy));
        requireState(its.isBound);
        int many = 0;
        for (int sheet = 0; sheet < its.sheets.length; sheet++) {
            if (its.isMixed(copy, sheet)) {
                many++;
            }
        }
        return many;
    }

    // ---- the scholar

    public int shared(int book, int one, int other) throws IndexOutOfBoundsException, IllegalArgumentException {
        Book its = bookAt(book);
        Forme first = formeOf(its, one);
        Forme second = formeOf(its, other);
        requireArgument(one != other);
        int both = 0;
        for (int piece = 0; piece < cases.count; piece++) {
            if (first.seen[piece] > 0 && second.seen[piece] > 0) {
                both++;
            }
        }
        boolean sameSkeleton = first.skeleton != NONE && first.skeleton == second.skeleton;
        return sameSkeleton ? both + 1000 : both;
    }

    public int orders(int book) throws IndexOutOfBoundsException {
        Book its = bookAt(book);
        scholar.readFormes(its, cases);
        return scholar.countByLast(its.formes.length);
    }

    public int ordersAnew(int book) throws IndexOutOfBoundsException {
        Book its = bookAt(book);
        scholar.readFormes(its, cases);
        return scholar.countByPlace(its.formes.length);
    }

    public int ahead(int book, int one, int other) throws IndexOutOfBoundsException, IllegalArgumentException {
        Book its = bookAt(book);
        requireIndex(its.hasForme(one) && its.hasForme(other));
        requireArgument(one != other);
        scholar.readFormes(its, cases);
        if ((scholar.allAheadOf(other, its.formes.length) & 1 << one) != 0) {
            return 1;
        }
        return (scholar.allAheadOf(one, its.formes.length) & 1 << other) != 0 ? -1 : 0;
    }

    public int hands(int book) throws IndexOutOfBoundsException {
        return scholar.fewestHands(bookAt(book));
    }

    public int presses(int book) throws IndexOutOfBoundsException {
        return Scholar.fewestPresses(bookAt(book));
    }

    public int follows(int book, int other) throws IndexOutOfBoundsException {
        Book its = bookAt(book);
        Book model = bookAt(other);
        int same = 0;
        int all = its.linesOnPages();
        for (int line = 0; line < all; line++) {
            int last = its.lastWordOfLine(line);
            int modelLast = model.lastWordOfLine(line);
            if (last != NONE && modelLast != NONE && its.text.isLike(last, model.text, modelLast)) {
                same++;
            }
        }
        return same;
    }

    public int account(int what, int who) throws IllegalArgumentException, IndexOutOfBoundsException {
        requireArgument(what >= 0 && what <= 4);
        if (what == 4) {
            requireIndex(who >= 0 && who < STOCKS);
            return sheetsTaken[who];
        }
        if (what >= 2) {
            Press its = pressAt(who);
            return what == 2 ? its.sheets : its.hoursWorked;
        }
        Hand its = handAt(who);
        return what == 0 ? its.taken : its.away;
    }

    // ---- what the calls ask for ahead of their work

    private static void requireIndex(boolean isThere) {
        if (!isThere) {
            throw new IndexOutOfBoundsException("there is no such one");
        }
    }

    private static void requireArgument(boolean isGood) {
        if (!isGood) {
            throw new IllegalArgumentException("an argument is out of range, or the tape does not serve");
        }
    }

    private static void requireState(boolean isAllowed) {
        if (!isAllowed) {
            throw new IllegalStateException("the house is not in a state for this");
        }
    }

    private Book bookAt(int book) {
        Book found = book >= 0 && book < shelf.length ? shelf[book] : null;
        if (found == null) {
            throw new IndexOutOfBoundsException("there is no such book");
        }
        return found;
    }

    private Hand handAt(int hand) {
        Hand found = hand >= 0 && hand < staff.length ? staff[hand] : null;
        if (found == null) {
            throw new IndexOutOfBoundsException("there is no such hand");
        }
        return found;
    }

    private Press pressAt(int press) {
        if (press < 0 || press >= pressRoom.length) {
            throw new IndexOutOfBoundsException("there is no such press");
        }
        return pressRoom[press];
    }

    private static Page pageOf(Book book, int page) {
        if (!book.hasPage(page)) {
            throw new IndexOutOfBoundsException("there is no such page");
        }
        return book.pages[page];
    }

    private static Forme formeOf(Book book, int forme) {
        if (!book.hasForme(forme)) {
            throw new IndexOutOfBoundsException("there is no such forme");
        }
        return book.formes[forme];
    }

    private boolean someBookHasCopy() {
        for (Book book : shelf) {
            if (book != null && book.text.count > 0) {
                return true;
            }
        }
        return false;
    }

    private boolean isInUse(int skeleton) {
        for (Book book : shelf) {
            if (book != null && book.holdsSkeleton(skeleton)) {
                return true;
            }
        }
        return false;
    }

    private int workAnHour() {
        if (isHoliday(now)) {
            return 0;
        }
        int done = 0;
        for (Press press : pressRoom) {
            if (press.work(now, cases)) {
                done++;
            }
        }
        return done;
    }

    private static boolean isHoliday(int hour) {
        return hour % WEEK >= WEEK - DAY;
    }

    /** How many hours ahead of an hour are in no holiday. */
    private static int workingHoursAhead(int hour) {
        return hour / WEEK * (WEEK - DAY) + Math.min(hour % WEEK, WEEK - DAY);
    }

    private static boolean isSort(int sort) {
        return sort >= 0 && sort < SORTS;
    }

    private static boolean isLetter(int sign) {
        return sign >= 'a' && sign <= 'z';
    }

    private static boolean isSign(int sign) {
        return isLetter(sign) || sign == ' ' || sign == '/';
    }

    private static int letterAt(long word, int at) {
        return (int) (word >>> 8 * at & 255);
    }

    private static int letters(long word) {
        int many = 0;
        for (int at = 0; at < MOST_LETTERS; at++) {
            if (letterAt(word, at) != 0) {
                many++;
            }
        }
        return many;
    }

    // ---- what the house is made of

    /** The tape, the words into which a text on it was split, and the spellings that were made of such. */
    private static final class Words {
        final int[] tape = new int[MOST_SIGNS];
        final long[] split = new long[MOST_SIGNS];
        final boolean[] endsLine = new boolean[MOST_SIGNS];
        final long[] brief = new long[MOST_SPELLINGS];
        final long[] full = new long[MOST_SPELLINGS];
        int length;
        int spellings;

        void add(int sign) {
            if (length < tape.length) {
                tape[length] = sign;
                length++;
            }
        }

        int faultPlace() {
            int run = 0;
            for (int at = 0; at < length; at++) {
                boolean letter = isLetter(tape[at]);
                if (letter ? run == MOST_LETTERS : run == 0) {
                    return at;
                }
                run = letter ? run + 1 : 0;
            }
            return run == 0 ? length : NONE;
        }

        boolean isText() {
            return faultPlace() == NONE;
        }

        /** Splits a text into its words, and returns how many these are. */
        int splitText() {
            int many = 0;
            long word = 0;
            int run = 0;
            for (int at = 0; at <= length; at++) {
                if (at < length && isLetter(tape[at])) {
                    word |= (long) tape[at] << 8 * run;
                    run++;
                } else if (many < split.length) {
                    split[many] = word;
                    endsLine[many] = at == length || tape[at] == '/';
                    many++;
                    word = 0;
                    run = 0;
                }
            }
            return many;
        }

        boolean isPair() {
            return isText() && splitText() == 2 && !endsLine[0];
        }

        int addSpelling(long briefWord, long fullWord) {
            if (spellings < brief.length) {
                brief[spellings] = briefWord;
                full[spellings] = fullWord;
                spellings++;
            }
            return spellings - 1;
        }

        int spellingOf(long word) {
            for (int spelling = 0; spelling < spellings; spelling++) {
                if (brief[spelling] == word || full[spelling] == word) {
                    return spelling;
                }
            }
            return NONE;
        }
    }

    /** All pieces; a box is the chain from its topmost piece down. */
    private static final class Cases {
        final int[] sort = new int[MOST_PIECES];
        final int[] worn = new int[MOST_PIECES];
        final int[] where = new int[MOST_PIECES];
        final int[] under = new int[MOST_PIECES];
        final int[] top = new int[SORTS];
        int count;

        Cases() {
            for (int box = 0; box < SORTS; box++) {
                top[box] = NONE;
            }
        }

        boolean has(int piece) {
            return piece >= 0 && piece < count;
        }

        void add(int ofSort) {
            if (count < MOST_PIECES) {
                sort[count] = ofSort;
                count++;
                putOn(ofSort, count - 1);
            }
        }

        void putOn(int box, int piece) {
            under[piece] = top[box];
            top[box] = piece;
            where[piece] = box;
        }

        /** Takes the topmost piece of a box to a page; NONE if the box is empty. */
        int take(int box, int page) {
            int piece = top[box];
            if (piece != NONE) {
                top[box] = under[piece];
                where[piece] = page;
            }
            return piece;
        }

        int pieceUnder(int box, int pieces) {
            int piece = top[box];
            for (int passed = 0; passed < pieces && piece != NONE; passed++) {
                piece = under[piece];
            }
            return piece;
        }

        /** The box whose pieces serve for a sort when they are turned; NONE if there is none. */
        static int turnedBox(int wanted) {
            switch (wanted) {
                case 'n' - 'a':
                    return 'u' - 'a';
                case 'u' - 'a':
                    return 'n' - 'a';
                case 'b' - 'a':
                    return 'q' - 'a';
                case 'q' - 'a':
                    return 'b' - 'a';
                case 'd' - 'a':
                    return 'p' - 'a';
                case 'p' - 'a':
                    return 'd' - 'a';
                default:
                    return NONE;
            }
        }
    }

    private static final class Hand {
        final int likes;
        final int drops;
        final int skips;
        int chances;
        int taken;
        int away;

        Hand(int likes, int drops, int skips) {
            this.likes = likes;
            this.drops = drops;
            this.skips = skips;
        }

        boolean likesLong(int spelling) {
            return spelling != NONE && (likes >> spelling & 1) == 1;
        }

        /** Whether the eye skips at a chance, which is counted by that. */
        boolean skipsNow() {
            chances++;
            return skips > 0 && chances % skips == 0;
        }

        /** The box to which the next piece goes that is put away. */
        int boxForNext(int sort) {
            away++;
            return drops > 0 && away % drops == 0 ? (sort + 1) % SORTS : sort;
        }
    }

    /** The copy of a book. A word that is in no spelling has itself for both forms. */
    private static final class Text {
        final long[] told = new long[MOST_WORDS];
        final long[] brief = new long[MOST_WORDS];
        final long[] full = new long[MOST_WORDS];
        final int[] spelling = new int[MOST_WORDS];
        final boolean[] endsLine = new boolean[MOST_WORDS];
        int count;

        void add(long word, boolean ends, Words words) {
            if (count >= MOST_WORDS) {
                return;
            }
            int its = words.spellingOf(word);
            told[count] = word;
            spelling[count] = its;
            brief[count] = its == NONE ? word : words.brief[its];
            full[count] = its == NONE ? word : words.full[its];
            endsLine[count] = ends;
            count++;
        }

        void addPage(Page page, Text from, Words words) {
            for (int line = 0; line < page.lines; line++) {
                int behind = page.wordBehindLine(line);
                for (int word = page.firstWord[line]; word < behind; word++) {
                    add(from.form(page.number[word], page.isFull[word]), word == behind - 1, words);
                }
            }
        }

        long form(int word, boolean isFull) {
            return isFull ? full[word] : brief[word];
        }

        /** The units by which a word grows from its short form to its long one. */
        int growth(int word) {
            return letters(full[word]) - letters(brief[word]);
        }

        boolean isLike(int word, Text other, int otherWord) {
            if (told[word] == other.told[otherWord]) {
                return true;
            }
            return spelling[word] != NONE && spelling[word] == other.spelling[otherWord];
        }

        /** The first of the next words of a part that is the same as a word of it; NONE if there is none. */
        int sameSoon(int word, int to) {
            for (int next = word + 1; next <= word + NEXT_WORDS && next < to; next++) {
                if (told[next] == told[word]) {
                    return next;
                }
            }
            return NONE;
        }
    }

    /** The places of a page, and what each of them prints in each state: a sort, or NONE for a dot. */
    private static final class Places {
        final int[] wanted;
        final int[] piece;
        final boolean[] turned;
        final int[][] prints;
        int count;

        Places(int most, int states) {
            wanted = new int[most];
            piece = new int[most];
            turned = new boolean[most];
            prints = new int[states][most];
        }

        /** Adds a place and fills it; returns whether a piece is there then. */
        boolean fillNext(int sort, Cases cases, int page) {
            if (count >= wanted.length) {
                return false;
            }
            int box = sort;
            int taken = cases.take(box, page);
            int other = Cases.turnedBox(sort);
            boolean isTurned = taken == NONE && other != NONE && cases.top[other] != NONE;
            if (isTurned) {
                box = other;
                taken = cases.take(box, page);
            }
            wanted[count] = sort;
            piece[count] = taken;
            turned[count] = isTurned;
            int letter = taken == NONE ? NONE : cases.sort[taken];
            prints[0][count] = isTurned && letter == box ? sort : letter;
            count++;
            return taken != NONE;
        }

        void beginState(int state) {
            if (state >= 1 && state < prints.length) {
                System.arraycopy(prints[state - 1], 0, prints[state], 0, count);
            }
        }

        /** Corrects a place; the box of the wanted sort is not empty. */
        void replace(int place, int state, Cases cases, int page) {
            int taken = cases.take(wanted[place], page);
            int old = piece[place];
            if (taken == NONE) {
                return;
            }
            if (old != NONE) {
                cases.putOn(cases.sort[old], old);
            }
            piece[place] = taken;
            turned[place] = false;
            prints[state][place] = cases.sort[taken];
        }

        /** Puts all pieces away; what was printed stays known. */
        int clear(Cases cases, Hand by) {
            int put = 0;
            for (int place = 0; place < count; place++) {
                int gone = piece[place];
                if (gone != NONE) {
                    cases.putOn(by.boxForNext(cases.sort[gone]), gone);
                    put++;
                }
                piece[place] = NONE;
                turned[place] = false;
            }
            return put;
        }

        /** What a place prints in a state; as it was wanted, if there is no state. */
        int printed(int place, int state) {
            return state >= 0 && state < prints.length ? prints[state][place] : wanted[place];
        }
    }

    /** A page. Its words are numbered through it; their rows have one more for what stands behind the last one. */
    private static final class Page {
        final int measure;
        final int[] number = new int[MOST_WORDS + 1];
        final boolean[] isFull = new boolean[MOST_WORDS + 1];
        final int[] blanks = new int[MOST_WORDS + 1];
        final int[] firstPlace = new int[MOST_WORDS + 1];
        final int[] firstWord;
        final int[] missing;
        final boolean[] cut;
        final Places places;
        int hand = NONE;
        int words;
        int lines;
        int through;
        int leftOut;
        boolean crowded;

        Page(int measure, int mostLines, int states) {
            this.measure = measure;
            firstWord = new int[mostLines];
            missing = new int[mostLines];
            cut = new boolean[mostLines];
            places = new Places(measure * mostLines, states);
        }

        boolean isSet() {
            return hand != NONE;
        }

        int told(int what) {
            if (!isSet()) {
                return NONE;
            }
            switch (what) {
                case 1:
                    return hand;
                case 2:
                    return words;
                case 3:
                    return through;
                case 4:
                    return crowded ? 1 : 0;
                case 5:
                    return leftOut;
                case 6:
                    return places.count;
                default:
                    return lines;
            }
        }

        int wordBehindLine(int line) {
            return line + 1 < lines ? firstWord[line + 1] : words;
        }

        int lastWord(int line) {
            return number[Math.max(wordBehindLine(line) - 1, 0)];
        }

        boolean isLoose(int line) {
            return !cut[line] && missing[line] >= 3 && !crowded;
        }

        /** The spellings with a word in the long form, or in the short one, in a line. */
        int spellingsOf(Text text, int line, boolean inFull) {
            int set = 0;
            int behind = wordBehindLine(line);
            for (int word = firstWord[line]; word < behind; word++) {
                int spelling = text.spelling[number[word]];
                if (spelling != NONE && isFull[word] == inFull) {
                    set |= 1 << spelling;
                }
            }
            return set;
        }

        int looseSpellings(Text text, boolean inFull) {
            int set = 0;
            for (int line = 0; line < lines; line++) {
                if (isLoose(line)) {
                    set |= spellingsOf(text, line, inFull);
                }
            }
            return set;
        }

        void compose(Text text, Hand by, int from, int to, boolean isCastOff) {
            int chancesAhead = by.chances;
            takeLines(text, by, from, to);
            if (isCastOff && through < to) {
                by.chances = chancesAhead;
                crowded = true;
                takeLines(text, by, from, to);
                leftOut = to - through;
            }
            for (int line = 0; line < lines; line++) {
                fillOut(text, line);
            }
        }

        private void takeLines(Text text, Hand by, int from, int to) {
            words = 0;
            lines = 0;
            through = from;
            for (int line = 0; line < firstWord.length && through < to; line++) {
                takeLine(text, by, line, to);
                lines++;
            }
        }

        private void takeLine(Text text, Hand by, int line, int to) {
            int left = measure;
            boolean goesOn = true;
            firstWord[line] = words;
            cut[line] = false;
            for (int taken = 0; taken < MOST_WORDS && goesOn && through < to && words < MOST_WORDS; taken++) {
                int room = taken == 0 ? left : left - 1;
                boolean full = prefersLong(text, by, through, room);
                int units = letters(text.form(through, full));
                cut[line] = units > room;
                if (cut[line]) {
                    goesOn = false;
                } else {
                    left = room - units;
                    addWord(through, full);
                    goesOn = !text.endsLine[through];
                    goOnBehind(text, by, to);
                }
            }
            missing[line] = left;
        }

        private boolean prefersLong(Text text, Hand by, int word, int room) {
            return !crowded && by.likesLong(text.spelling[word]) && letters(text.full[word]) <= room;
        }

        private void addWord(int word, boolean full) {
            number[words] = word;
            isFull[words] = full;
            blanks[words] = 1;
            words++;
        }

        private void goOnBehind(Text text, Hand by, int to) {
            int same = text.sameSoon(through, to);
            boolean skips = same != NONE && by.skipsNow();
            through = skips ? same + 1 : through + 1;
        }

        private void fillOut(Text text, int line) {
            if (!cut[line]) {
                return;
            }
            int left = missing[line];
            int behind = wordBehindLine(line);
            for (int round = 1; round < MOST_BLANK; round++) {
                for (int word = firstWord[line]; word < behind - 1 && left > 0; word++) {
                    blanks[word]++;
                    left--;
                }
            }
            for (int word = firstWord[line]; word < behind && !crowded; word++) {
                int growth = text.growth(number[word]);
                if (growth > 0 && !isFull[word] && growth <= left) {
                    isFull[word] = true;
                    left -= growth;
                }
            }
            missing[line] = left;
        }

        /** Fills the places of all words; returns how many stay empty. */
        int fillPlaces(Text text, Cases cases, int page) {
            int empty = 0;
            for (int word = 0; word < words; word++) {
                firstPlace[word] = places.count;
                empty += fillWord(text.form(number[word], isFull[word]), cases, page);
            }
            firstPlace[words] = places.count;
            return empty;
        }

        private int fillWord(long word, Cases cases, int page) {
            int empty = 0;
            int end = letters(word);
            for (int at = 0; at < end; at++) {
                int both = at + 1 < end ? joined(letterAt(word, at), letterAt(word, at + 1)) : NONE;
                boolean isJoined = both != NONE && cases.top[both] != NONE;
                int wanted = isJoined ? both : letterAt(word, at) - 'a';
                if (!places.fillNext(wanted, cases, page)) {
                    empty++;
                }
                if (isJoined) {
                    at++;
                }
            }
            return empty;
        }

        private static int joined(int letter, int next) {
            if (letter != 'f') {
                return NONE;
            }
            return next == 'i' ? FI : next == 'l' ? FL : NONE;
        }

        int printedSign(int line, int sign, int state) {
            if (line >= lines) {
                return NONE;
            }
            int rest = sign;
            int behind = wordBehindLine(line);
            for (int word = firstWord[line]; word < behind; word++) {
                for (int place = firstPlace[word]; place < firstPlace[word + 1]; place++) {
                    int sort = places.printed(place, state);
                    int signs = sort >= FI ? 2 : 1;
                    if (rest < signs) {
                        return signOf(sort, rest);
                    }
                    rest -= signs;
                }
                int blank = word + 1 < behind ? blanks[word] : 0;
                if (rest < blank) {
                    return ' ';
                }
                rest -= blank;
            }
            return NONE;
        }

        private static int signOf(int sort, int at) {
            if (sort == NONE) {
                return '.';
            }
            if (sort < FI) {
                return 'a' + sort;
            }
            return at == 0 ? 'f' : sort == FI ? 'i' : 'l';
        }
    }

    /** A forme; the state s is printed from the sheet stateBegins[s] on, in the order of its own printing. */
    private static final class Forme {
        final Page[] pages;
        final int edition;
        final int[] stateBegins;
        final int[] seen = new int[MOST_PIECES];
        int how = OPEN;
        int skeleton = NONE;
        int printed;
        int states = 1;
        int onHour = NONE;
        int doneHour = NONE;
        boolean ready;

        Forme(Page[] pages, int edition) {
            this.pages = pages;
            this.edition = edition;
            stateBegins = new int[edition];
        }

        boolean wasDone() {
            return how == DONE || how == GONE;
        }

        boolean allPagesSet() {
            for (Page page : pages) {
                if (!page.isSet()) {
                    return false;
                }
            }
            return true;
        }

        void beginStateIfPrinted() {
            if (printed <= stateBegins[states - 1] || states >= stateBegins.length) {
                return;
            }
            stateBegins[states] = printed;
            for (Page page : pages) {
                page.places.beginState(states);
            }
            states++;
        }

        int stateOf(int sheet) {
            int state = 0;
            for (int later = 1; later < states; later++) {
                if (stateBegins[later] <= sheet) {
                    state = later;
                }
            }
            return state;
        }

        /** Keeps how its pieces are worn, as they go on being worn in other formes. */
        void finish(int hour, Cases cases) {
            how = DONE;
            doneHour = hour;
            for (Page page : pages) {
                Places places = page.places;
                for (int place = 0; place < places.count; place++) {
                    int piece = places.piece[place];
                    if (piece != NONE) {
                        seen[piece] = cases.worn[piece];
                    }
                }
            }
        }
    }

    private static final class Press {
        Forme forme;
        int crew = 1;
        int sheets;
        int hoursWorked;

        /** Works for an hour; returns whether a forme is DONE by that. */
        boolean work(int hour, Cases cases) {
            if (forme == null || crew == 0) {
                return false;
            }
            hoursWorked++;
            if (!forme.ready) {
                forme.ready = true;
                return false;
            }
            int many = Math.min(crew, forme.edition - forme.printed);
            forme.printed += many;
            sheets += many;
            if (forme.printed < forme.edition) {
                return false;
            }
            forme.finish(hour, cases);
            forme = null;
            return true;
        }
    }

    /** A sheet and its heap. */
    private static final class Sheet {
        final Forme outer;
        final Forme inner;
        Forme printedFirst;
        int stock;
        int firstOfStock;
        int turn;

        Sheet(Forme outer, Forme inner) {
            this.outer = outer;
            this.inner = inner;
        }

        boolean isOnPress() {
            return outer.how == ON || inner.how == ON;
        }

        boolean isWhite() {
            return printedFirst == null;
        }

        void takeHeap(Forme first, int ofStock, int takenAhead) {
            printedFirst = first;
            stock = ofStock;
            firstOfStock = takenAhead;
        }

        int moldOf(int heapNumber) {
            return 2 * stock + (firstOfStock + heapNumber) % 2;
        }

        /** The state of a forme on a sheet of the heap, which was turned over between the two formes. */
        int stateOn(Forme forme, int heapNumber) {
            return forme.stateOf(forme == printedFirst ? heapNumber : forme.edition - 1 - heapNumber);
        }
    }

    /** A book; in a copy a leaf is the number of its sheet in the heap, NONE if it is cancelled. */
    private static final class Book {
        final int format;
        final int measure;
        final int mostLines;
        final int edition;
        final Text text = new Text();
        final Page[] pages;
        final Forme[] formes;
        final Sheet[] sheets;
        final int[] partBegins;
        final int[][] leaves;
        boolean isCastOff;
        boolean isBound;

        Book(int format, int sheetCount, int measure, int mostLines, int edition) {
            this.format = format;
            this.measure = measure;
            this.mostLines = mostLines;
            this.edition = edition;
            pages = new Page[2 * format * sheetCount];
            for (int page = 0; page < pages.length; page++) {
                pages[page] = new Page(measure, mostLines, edition);
            }
            formes = new Forme[2 * sheetCount];
            for (int forme = 0; forme < formes.length; forme++) {
                formes[forme] = new Forme(pagesOf(forme, pages, format), edition);
            }
            sheets = new Sheet[sheetCount];
            for (int sheet = 0; sheet < sheetCount; sheet++) {
                sheets[sheet] = new Sheet(formes[2 * sheet], formes[2 * sheet + 1]);
            }
            partBegins = new int[pages.length];
            leaves = new int[edition][format * sheetCount];
        }

        private static Page[] pagesOf(int forme, Page[] pages, int format) {
            Page[] its = new Page[format];
            for (int page = 0; page < pages.length; page++) {
                if (formeOfPage(page, format) == forme) {
                    its[placeInForme(page, format)] = pages[page];
                }
            }
            return its;
        }

        private static int formeOfPage(int page, int format) {
            int inSheet = page % (2 * format) + 1;
            return page / (2 * format) * 2 + (inSheet % 4 <= 1 ? 0 : 1);
        }

        /** A leaf has one page in each forme of its sheet, so that the k-th page of a forme is on the k-th leaf. */
        private static int placeInForme(int page, int format) {
            return page % (2 * format) / 2;
        }

        boolean hasPage(int page) {
            return page >= 0 && page < pages.length;
        }

        boolean hasForme(int forme) {
            return forme >= 0 && forme < formes.length;
        }

        boolean hasCopy(int copy) {
            return copy >= 0 && copy < edition;
        }

        boolean hasLeaf(int leaf) {
            return leaf >= 0 && leaf < format * sheets.length;
        }

        int formeNumber(int page) {
            return formeOfPage(page, format);
        }

        int runningTitle(int page) {
            int skeleton = formes[formeNumber(page)].skeleton;
            return skeleton == NONE ? NONE : TITLES * skeleton + placeInForme(page, format);
        }

        boolean hasSetPage() {
            for (Page page : pages) {
                if (page.isSet()) {
                    return true;
                }
            }
            return false;
        }

        int wordsOnPages() {
            int all = 0;
            for (Page page : pages) {
                all += page.words;
            }
            return all;
        }

        int linesOnPages() {
            int all = 0;
            for (Page page : pages) {
                all += page.lines;
            }
            return all;
        }

        /** The last word of a line, counted through all pages; NONE if there are not so many. */
        int lastWordOfLine(int line) {
            int rest = line;
            for (Page page : pages) {
                if (rest < page.lines) {
                    return page.lastWord(rest);
                }
                rest -= page.lines;
            }
            return NONE;
        }

        void partByUnits(int percent) {
            int holds = Math.max(measure * mostLines * percent / 100, 1);
            int units = 0;
            int word = 0;
            for (int page = 0; page < pages.length; page++) {
                for (; word < text.count && units < page * holds; word++) {
                    units += letters(text.told[word]) + 1;
                }
                partBegins[page] = word;
            }
            isCastOff = true;
        }

        /** NONE as long as the part of a page does not begin. */
        int firstWordOfPart(int page) {
            if (isCastOff) {
                return partBegins[page];
            }
            if (page == 0) {
                return 0;
            }
            return pages[page - 1].isSet() ? pages[page - 1].through : NONE;
        }

        int wordBehindPart(int page) {
            return isCastOff && page + 1 < pages.length ? partBegins[page + 1] : text.count;
        }

        boolean holdsSkeleton(int skeleton) {
            for (Forme forme : formes) {
                if (forme.skeleton == skeleton && forme.how != GONE) {
                    return true;
                }
            }
            return false;
        }

        boolean isPrinted() {
            for (Forme forme : formes) {
                if (!forme.wasDone()) {
                    return false;
                }
            }
            return true;
        }

        void gather() {
            for (int copy = 0; copy < edition; copy++) {
                for (int leaf = 0; leaf < leaves[copy].length; leaf++) {
                    leaves[copy][leaf] = (copy + sheets[leaf / format].turn) % edition;
                }
            }
            isBound = true;
        }

        int stateIn(int copy, int page) {
            int heapNumber = leaves[copy][page / 2];
            if (heapNumber == NONE) {
                return NONE;
            }
            return sheets[page / (2 * format)].stateOn(formes[formeNumber(page)], heapNumber);
        }

        boolean hasSameStates(int one, int other) {
            for (int page = 0; page < pages.length; page++) {
                if (stateIn(one, page) != stateIn(other, page)) {
                    return false;
                }
            }
            return true;
        }

        boolean isMixed(int copy, int sheet) {
            int known = NONE;
            for (int leaf = sheet * format; leaf < (sheet + 1) * format; leaf++) {
                int heapNumber = leaves[copy][leaf];
                if (heapNumber != NONE && known != NONE && heapNumber != known) {
                    return true;
                }
                known = heapNumber == NONE ? known : heapNumber;
            }
            return false;
        }
    }

    /** Reads a book backwards; sets of formes and of pages are bits. */
    private static final class Scholar {
        final int[] surelyAhead = new int[MOST_FORMES];
        final int[] ways = new int[1 << MOST_FORMES];
        final int[] unlike = new int[MOST_PAGES];
        final int[] brief = new int[MOST_PAGES];
        final int[] full = new int[MOST_PAGES];
        final int[] parts = new int[MOST_PAGES];

        /** Finds of which formes each one is surely behind; a piece that is not worn was seen in none. */
        void readFormes(Book book, Cases cases) {
            for (int forme = 0; forme < book.formes.length; forme++) {
                surelyAhead[forme] = 0;
            }
            for (int piece = 0; piece < cases.count; piece++) {
                if (cases.worn[piece] > 0) {
                    readPiece(book, piece);
                }
            }
        }

        private void readPiece(Book book, int piece) {
            for (int forme = 0; forme < book.formes.length; forme++) {
                int worn = book.formes[forme].seen[piece];
                for (int other = 0; other < book.formes.length; other++) {
                    int less = book.formes[other].seen[piece];
                    if (less > 0 && less < worn) {
                        surelyAhead[forme] |= 1 << other;
                    }
                }
            }
        }

        /** Counts the orders of each set of formes by the forme that is its last one. */
        int countByLast(int formes) {
            int all = (1 << formes) - 1;
            ways[0] = 1;
            for (int set = 1; set <= all; set++) {
                ways[set] = 0;
                for (int last = 0; last < formes; last++) {
                    int ahead = set & ~(1 << last);
                    if (ahead != set && (surelyAhead[last] & ~ahead) == 0) {
                        ways[set] += ways[ahead];
                    }
                }
            }
            return ways[all];
        }

        /**
         * Counts the orders by trying each forme at each place, from the first one on: orders that have the same formes
         * ahead of a place go on together, as the same fits behind them.
         */
        int countByPlace(int formes) {
            int all = (1 << formes) - 1;
            for (int set = 0; set <= all; set++) {
                ways[set] = set == 0 ? 1 : 0;
            }
            for (int ahead = 0; ahead < all; ahead++) {
                for (int tried = 0; tried < formes; tried++) {
                    boolean fits = (ahead & 1 << tried) == 0 && (surelyAhead[tried] & ~ahead) == 0;
                    if (fits) {
                        ways[ahead | 1 << tried] += ways[ahead];
                    }
                }
            }
            return ways[all];
        }

        /** The formes that are ahead of one in all orders: surely, or by others that surely are between. */
        int allAheadOf(int forme, int formes) {
            int set = surelyAhead[forme];
            for (int round = 0; round < formes; round++) {
                for (int between = 0; between < formes; between++) {
                    if ((set & 1 << between) != 0) {
                        set |= surelyAhead[between];
                    }
                }
            }
            return set;
        }

        int fewestHands(Book book) {
            int pages = readPages(book);
            int many = pages == 0 ? 0 : 1;
            while (many < pages && !canPart(this, 0, 0, tightPages(pages, many), many)) {
                many++;
            }
            return many;
        }

        /**
         * The pages that are unlike as many others of them as there are parts, or more. All others find room behind
         * them, so that they need not be tried.
         */
        private int tightPages(int pages, int most) {
            int set = (1 << pages) - 1;
            for (int round = 0; round < pages; round++) {
                for (int page = 0; page < pages; page++) {
                    if (Integer.bitCount(unlike[page] & set) < most) {
                        set &= ~(1 << page);
                    }
                }
            }
            return set;
        }

        /** Finds which of the pages that are set are unlike; returns how many are set. */
        private int readPages(Book book) {
            int pages = 0;
            for (Page page : book.pages) {
                if (page.isSet()) {
                    brief[pages] = page.looseSpellings(book.text, false);
                    full[pages] = page.looseSpellings(book.text, true);
                    pages++;
                }
            }
            for (int page = 0; page < pages; page++) {
                unlike[page] = 0;
                for (int other = 0; other < pages; other++) {
                    if (other != page && (brief[page] & full[other] | full[page] & brief[other]) != 0) {
                        unlike[page] |= 1 << other;
                    }
                }
            }
            return pages;
        }

        /**
         * Whether those of a set of pages, from one on, find room in the parts, some of which are used already. It
         * calls itself for the next page, and for none behind the last one.
         */
        private static boolean canPart(Scholar its, int page, int used, int set, int most) {
            if (page >= MOST_PAGES) {
                return true;
            }
            if ((set & 1 << page) == 0) {
                return canPart(its, page + 1, used, set, most);
            }
            boolean can = false;
            for (int part = 0; part <= used && part < most && !can; part++) {
                if ((its.parts[part] & its.unlike[page]) == 0) {
                    its.parts[part] |= 1 << page;
                    can = canPart(its, page + 1, Math.max(used, part + 1), set, most);
                    its.parts[part] &= ~(1 << page);
                }
            }
            return can;
        }

        static int fewestPresses(Book book) {
            int first = LAST_HOUR;
            int last = NONE;
            int needed = 0;
            for (Forme forme : book.formes) {
                if (forme.wasDone()) {
                    first = Math.min(first, forme.onHour);
                    last = Math.max(last, forme.doneHour);
                    needed += 1 + (book.edition + 1) / 2;
                }
            }
            int hours = workingHoursAhead(last + 1) - workingHoursAhead(first);
            return needed == 0 || hours <= 0 ? 0 : (needed + hours - 1) / hours;
        }
    }
}
