/** Promises 1 to 10: a new object, the tape, words, type, hands. */
public final class WordsAndTypeTests {
    private WordsAndTypeTests() {
    }

    /** Promise 1. */
    private static void newObject() {
        House x = new House();
        Checks.due("hour of a new house", 0, x.hour());
        Checks.due("fault of an empty tape", 0, x.fault());
        Checks.due("wipe of a new house", 0, x.wipe());
        for (int sort = 0; sort < 28; sort++) {
            Checks.due("box of a new house", Leadchapel.NONE, x.box(sort, 0));
        }
        Checks.refuses(x, "piece of a new house", Checks.INDEX, () -> x.piece(0, 0));
        Checks.refuses(x, "hand of a new house", Checks.INDEX, () -> x.account(0, 0));
        Checks.refuses(x, "book of a new house", Checks.INDEX, () -> x.page(0, 0, 0));
        for (int press = 0; press < 3; press++) {
            Checks.due("sheets of a new house", 0, x.account(2, press));
            Checks.due("hours of a new house", 0, x.account(3, press));
            Checks.due("men of a new house", 1, x.men(press, 1));
        }
        for (int stock = 0; stock < 4; stock++) {
            Checks.due("paper of a new house", 0, x.account(4, stock));
        }
        Checks.due("NONE", -1, Leadchapel.NONE);
        Checks.due("how formes are", 1234, Leadchapel.OPEN * 10000 + Leadchapel.LOCKED * 1000 + Leadchapel.ON * 100
                + Leadchapel.DONE * 10 + Leadchapel.GONE);
    }

    /** Promise 2. */
    private static void type() {
        House x = new House();
        Checks.due("type one", 1, x.type('a', 1));
        Checks.due("type with more than n characters", 3, x.type(Checks.packed("bz.A"), 2));
        Checks.due("type eight", 11, x.type(Checks.packed("c/d efgh"), 8));
        Checks.refuses(x, "type none", Checks.ARGUMENT, () -> x.type('a', 0));
        Checks.refuses(x, "type less than none", Checks.ARGUMENT, () -> x.type('a', -1));
        Checks.refuses(x, "type nine", Checks.ARGUMENT, () -> x.type(Checks.packed("abcdefgh"), 9));
        Checks.refuses(x, "type many", Checks.ARGUMENT, () -> x.type('a', Integer.MAX_VALUE));
        for (int bad : new int[] {0, '`', '{', '.', '0', '-', 'A', 'Z', 31, 33, 'a' + 128, 255}) {
            Checks.refuses(x, "type of the sign " + bad, Checks.ARGUMENT, () -> x.type(bad, 1));
            Checks.refuses(x, "type of a later sign " + bad, Checks.ARGUMENT, () -> x.type('a' | (long) bad << 8, 2));
        }
        Checks.refuses(x, "type of a high sign", Checks.ARGUMENT,
                () -> x.type(Checks.packed("abcdefg") | 0x80L << 56, 8));
        Checks.due("what was typed", 11, x.wipe());
        Checks.due("type z, blank and stroke", 4, Checks.type(x, "az /"));
        Checks.due("type up to 35", 35, Checks.type(x, "abcdefghijklmnopqrstuvwxyzabcde"));
        Checks.refuses(x, "type 41", Checks.STATE, () -> x.type(Checks.packed("abcdef"), 6));
        Checks.due("type 40", 40, x.type(Checks.packed("abcde"), 5));
        Checks.refuses(x, "type on a full tape", Checks.STATE, () -> x.type('a', 1));
        Checks.refuses(x, "type a bad sign on a full tape", Checks.ARGUMENT, () -> x.type('.', 1));
        Checks.refuses(x, "type nine on a full tape", Checks.ARGUMENT, () -> x.type('a', 9));
        Checks.due("a full tape", 40, x.wipe());
    }

    /** Promises 3 and 4. */
    private static void wipeAndFault() {
        House x = new House();
        Object[][] tapes = {
            {"", 0}, {"a", -1}, {"abcdefgh", -1}, {"abcdefghi", 8}, {" a", 0}, {"/a", 0}, {"a ", 2}, {"a/", 2},
            {"a b", -1}, {"a/b", -1}, {"a  b", 2}, {"a //b", 2}, {"a/ b", 2}, {"ab cdefghijk lm", 11}, {" ", 0},
            {"ab cdefghij klmnopqr/s t", -1}, {"a b c d e f g h i j k l m n o p q r s t", -1},
            {"a b c d e f g h i j k l m n o p q r s t ", 40}, {"abcdefghij  ", 8}
        };
        for (Object[] tape : tapes) {
            String text = (String) tape[0];
            Checks.type(x, text);
            Checks.due("fault of '" + text + "'", (Integer) tape[1], x.fault());
            Checks.due("fault of '" + text + "' again", (Integer) tape[1], x.fault());
            Checks.due("wipe of '" + text + "'", text.length(), x.wipe());
            Checks.due("wipe of nothing", 0, x.wipe());
        }
    }

    /** Promise 5. */
    private static void spelling() {
        House x = new House();
        String[] bad = {"", "do", "do ", "do/doe", "do do", "doe do", "do doeee e", "do doeeee", "do  doe", "do doe so",
            "doedoedoe doedoedoee", "a abcde"};
        for (String text : bad) {
            Checks.type(x, text);
            Checks.refuses(x, "spelling of '" + text + "'", Checks.ARGUMENT, x::spelling);
            Checks.due("the tape is still there", text.length(), x.wipe());
        }
        Checks.due("the first spelling", 0, Checks.spelling(x, "do doe"));
        Checks.due("the tape is empty then", 0, x.wipe());
        for (String text : new String[] {"do dooe", "da doe", "doe doee", "d do", "do doe"}) {
            Checks.type(x, text);
            Checks.refuses(x, "spelling of a known word: " + text, Checks.ARGUMENT, x::spelling);
            x.wipe();
        }
        Checks.due("one letter more", 1, Checks.spelling(x, "abcdefg abcdefgh"));
        Checks.due("three letters more", 2, Checks.spelling(x, "a aaaa"));
        Checks.due("other letters", 3, Checks.spelling(x, "b xyz"));
        Checks.due("five", 4, Checks.spelling(x, "c cc"));
        Checks.due("six", 5, Checks.spelling(x, "e ee"));
        Checks.type(x, "f ff");
        Checks.refuses(x, "the seventh spelling", Checks.STATE, x::spelling);
        x.wipe();
        Checks.type(x, "do ff");
        Checks.refuses(x, "the seventh spelling, of a known word", Checks.ARGUMENT, x::spelling);

        House y = new House();
        y.book(2, 1, 10, 1, 2);
        Checks.due("a spelling with a book without copy", 0, Checks.spelling(y, "do doe"));
        y.book(2, 1, 10, 1, 2);
        Checks.copy(y, 1, "so");
        Checks.type(y, "go goe");
        Checks.refuses(y, "a spelling when some book has copy", Checks.STATE, y::spelling);
        y.type('/', 1);
        Checks.refuses(y, "no spelling when some book has copy", Checks.ARGUMENT, y::spelling);
    }

    /** Promises 6, 8 and 9. */
    private static void castPieceAndBox() {
        House x = new House();
        Checks.due("cast", 3, x.cast(0, 3));
        Checks.due("cast of fl", 4, x.cast(27, 1));
        Checks.due("cast again", 6, x.cast(0, 2));
        int[] chain = {5, 4, 2, 1, 0, -1, -1};
        for (int place = 0; place < chain.length; place++) {
            Checks.due("box a " + place, chain[place], x.box(0, place));
        }
        Checks.due("box far below", -1, x.box(0, Integer.MAX_VALUE));
        Checks.due("box fl", 3, x.box(27, 0));
        Checks.due("box fi", -1, x.box(26, 0));
        Checks.due("sort", 27, x.piece(3, 0));
        Checks.due("worn", 0, x.piece(3, 1));
        Checks.due("in which box", 27, x.piece(3, 2));
        Checks.due("sort a", 0, x.piece(5, 0));
        Checks.refuses(x, "cast of no sort", Checks.ARGUMENT, () -> x.cast(28, 1));
        Checks.refuses(x, "cast below the sorts", Checks.ARGUMENT, () -> x.cast(-1, 1));
        Checks.refuses(x, "cast of none", Checks.ARGUMENT, () -> x.cast(0, 0));
        Checks.refuses(x, "cast of 41", Checks.ARGUMENT, () -> x.cast(0, 41));
        Checks.refuses(x, "piece 6", Checks.INDEX, () -> x.piece(6, 0));
        Checks.refuses(x, "piece -1", Checks.INDEX, () -> x.piece(-1, 0));
        Checks.refuses(x, "no piece, and what is out of range", Checks.INDEX, () -> x.piece(6, 3));
        Checks.refuses(x, "piece, what 3", Checks.ARGUMENT, () -> x.piece(0, 3));
        Checks.refuses(x, "piece, what -1", Checks.ARGUMENT, () -> x.piece(0, -1));
        Checks.refuses(x, "box 28", Checks.ARGUMENT, () -> x.box(28, 0));
        Checks.refuses(x, "box -1", Checks.ARGUMENT, () -> x.box(-1, -1));
        Checks.refuses(x, "box at -1", Checks.INDEX, () -> x.box(0, -1));
        for (int i = 0; i < 9; i++) {
            x.cast(1, 40);
        }
        Checks.refuses(x, "cast of 401", Checks.STATE, () -> x.cast(2, 35));
        Checks.due("cast of 400", 400, x.cast(2, 34));
        Checks.due("the last piece", 399, x.box(2, 0));
        Checks.refuses(x, "cast beyond 400", Checks.STATE, () -> x.cast(2, 1));
        Checks.refuses(x, "cast of 41 beyond 400", Checks.ARGUMENT, () -> x.cast(2, 41));
    }

    /** Promise 7. */
    private static void wear() {
        House x = new House();
        x.cast(3, 2);
        Checks.due("wear", 1, x.wear(1));
        Checks.due("wear again", 2, x.wear(1));
        Checks.due("wear a third time", 3, x.wear(1));
        Checks.due("worn", 3, x.piece(1, 1));
        Checks.due("the other one", 0, x.piece(0, 1));
        Checks.refuses(x, "wear a fourth time", Checks.STATE, () -> x.wear(1));
        Checks.refuses(x, "wear of no piece", Checks.INDEX, () -> x.wear(2));
        Checks.refuses(x, "wear of -1", Checks.INDEX, () -> x.wear(-1));
    }

    /** Promise 10. */
    private static void hand() {
        House x = new House();
        Checks.refuses(x, "likes -1", Checks.ARGUMENT, () -> x.hand(-1, 0, 0));
        Checks.refuses(x, "likes 64", Checks.ARGUMENT, () -> x.hand(64, 0, 0));
        Checks.refuses(x, "drops -1", Checks.ARGUMENT, () -> x.hand(0, -1, 0));
        Checks.refuses(x, "drops 10", Checks.ARGUMENT, () -> x.hand(0, 10, 0));
        Checks.refuses(x, "skips -1", Checks.ARGUMENT, () -> x.hand(0, 0, -1));
        Checks.refuses(x, "skips 10", Checks.ARGUMENT, () -> x.hand(0, 0, 10));
        Checks.due("hand", 0, x.hand(0, 0, 0));
        Checks.due("hand with all", 1, x.hand(63, 9, 9));
        Checks.due("third", 2, x.hand(1, 0, 0));
        Checks.due("fourth", 3, x.hand(1, 0, 0));
        Checks.refuses(x, "fifth", Checks.STATE, () -> x.hand(0, 0, 0));
        Checks.refuses(x, "fifth, out of range", Checks.ARGUMENT, () -> x.hand(64, 0, 0));
    }

    public static void main(String[] args) {
        newObject();
        type();
        wipeAndFault();
        spelling();
        castPieceAndBox();
        wear();
        hand();
        Checks.end();
    }
}
