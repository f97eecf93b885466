import java.util.NoSuchElementException;

/** For each promise of the document: ordinary inputs, edges and wrong inputs. */
public final class PromisesTest {
    private static final Check CHECK = new Check("PromisesTest");
    private static final Class<UnsupportedOperationException> REFUSED = UnsupportedOperationException.class;
    private static final Class<IndexOutOfBoundsException> NO_INDEX = IndexOutOfBoundsException.class;
    private static final Class<IllegalArgumentException> WRONG = IllegalArgumentException.class;
    private static final Class<NoSuchElementException> NONE = NoSuchElementException.class;
    private static final Class<IllegalStateException> NO_STATE = IllegalStateException.class;
    private static final Class<ArithmeticException> NO_NUMBER = ArithmeticException.class;
    private static final String SIXTY = "0123456789".repeat(6);

    public static void main(String[] args) {
        newObject();
        append();
        add();
        cut();
        change();
        swap();
        join();
        turn();
        lineOf();
        letter();
        ending();
        rank();
        rankAgain();
        common();
        commonOf();
        longest();
        longestRank();
        pieces();
        piecesAgain();
        kinds();
        finds();
        findsAgain();
        firstFind();
        isLine();
        shared();
        alone();
        alonePlace();
        isTurned();
        commands();
        commandsRefused();
        commandFaults();
        faultPosition();
        reason();
        write();
        writeLongest();
        character();
        meanLetters();
        repeatShare();
        account();
        undo();
        save();
        restore();
        CHECK.finish();
    }

    // Promise 1
    private static void newObject() {
        HymnEndings book = new HymnEndings();
        for (int what = 0; what <= 6; what++) {
            CHECK.is("1 new: account " + what, book.account(what), 0);
        }
        CHECK.is("1 new: fault", book.faultPosition(), -1);
        CHECK.is("1 new: longest", book.longest(), 0);
        CHECK.is("1 new: pieces", book.pieces(), 0);
        CHECK.is("1 new: pieces again", book.piecesAgain(), 0);
        CHECK.is("1 new: kinds", book.kinds(), 0);
        CHECK.refuses("1 new: reason", NONE, () -> book.reason(0, false));
        CHECK.refuses("1 new: character", NO_INDEX, () -> book.character(0));
        CHECK.refuses("1 new: undo", NO_STATE, book::undo);
        CHECK.refuses("1 new: restore", NO_STATE, book::restore);
        CHECK.refuses("1 new: cut", REFUSED, () -> book.cut(0));
        CHECK.refuses("1 new: ending", NONE, () -> book.ending(0, true));
    }

    // Promise 2
    private static void append() {
        HymnEndings book = new HymnEndings();
        for (int index = 0; index < 60; index++) {
            CHECK.is("2 append " + index, book.append((char) (index * 1000)), index + 1);
        }
        CHECK.refuses("2 append 60", NO_STATE, () -> book.append('a'));
        CHECK.is("2 the buffer stays", book.account(6), 60);
        CHECK.refuses("2 append 60 again", NO_STATE, () -> book.append('\uffff'));
        CHECK.refuses("2 full buffer is no word", REFUSED, book::add);
        CHECK.is("2 its characters", Books.reasons(book), "9:60");
        CHECK.is("2 append after", book.append('a'), 1);
    }

    // Promise 3
    private static void add() {
        HymnEndings book = new HymnEndings();
        CHECK.is("3 first", Books.add(book, "a"), 0);
        CHECK.is("3 buffer after", book.account(6), 0);
        CHECK.is("3 second", Books.add(book, "zyxwvutsrq"), 1);
        CHECK.is("3 lines", Books.lines(book), "a zyxwvutsrq");
        for (String word : new String[] {"", "abcdefghijk", "aB", "a{", "`a", "a1", "\u0161", "a b", "a\0"}) {
            CHECK.refuses("3 add " + word, REFUSED, () -> Books.add(book, word));
            CHECK.is("3 reason " + word, Books.reasons(book), "9:" + word.length());
            CHECK.is("3 buffer after " + word, book.account(6), 0);
        }
        CHECK.is("3 changes", book.account(5), 2);
        for (int line = 2; line < 8; line++) {
            CHECK.is("3 number", Books.add(book, "b"), line);
        }
        CHECK.refuses("3 ninth", REFUSED, () -> Books.add(book, "c"));
        CHECK.is("3 ninth: reason", Books.reasons(book), "1:8");
        CHECK.is("3 ninth: buffer", book.account(6), 0);
        CHECK.is("3 ninth: lines", Books.lines(book), "a zyxwvutsrq b b b b b b");
        CHECK.refuses("3 ninth, no word", REFUSED, () -> Books.add(book, "-"));
        CHECK.is("3 ninth, no word: reason", Books.reasons(book), "9:1");
    }

    // Promise 4
    private static void cut() {
        HymnEndings book = Books.of("ab", "c", "def");
        for (int line : new int[] {-1, 3, 8, Integer.MAX_VALUE, Integer.MIN_VALUE}) {
            CHECK.refuses("4 cut " + line, REFUSED, () -> book.cut(line));
            CHECK.is("4 reason " + line, Books.reasons(book), "2:" + line);
        }
        CHECK.is("4 cut 0", book.cut(0), 2);
        CHECK.is("4 lines", Books.lines(book), "c def");
        CHECK.is("4 cut 1", book.cut(1), 1);
        CHECK.is("4 lines", Books.lines(book), "c");
        CHECK.is("4 reason stays", Books.reasons(book), "2:-2147483648");
        CHECK.is("4 cut 0", book.cut(0), 0);
        CHECK.refuses("4 cut of none", REFUSED, () -> book.cut(0));
        CHECK.is("4 changes", book.account(5), 6);
        HymnEndings full = Books.of("a", "b", "c", "d", "e", "f", "g", "hhhhhhhhhh");
        CHECK.is("4 cut of a full book", full.cut(2), 7);
        CHECK.is("4 lines of a full book", Books.lines(full), "a b d e f g hhhhhhhhhh");
        CHECK.is("4 a line again", Books.add(full, "i"), 7);
        full.cut(7);
        CHECK.refuses("4 no letters of a line that was cut", NO_INDEX, () -> full.letter(7, 0));
        CHECK.refuses("4 no rank of a line that was cut", NO_INDEX, () -> full.rank(7, 0));
        HymnEndings repeats = Books.of("ab", "ab");
        repeats.cut(1);
        CHECK.is("4 no repeats then", repeats.longest(), 0);
        CHECK.is("4 nothing in common then", repeats.account(3), 0);
        CHECK.is("4 no share of repeats then", repeats.repeatShare(), 0.0);
    }

    // Promise 5
    private static void change() {
        HymnEndings book = Books.of("anna", "ban");
        CHECK.is("5 rank then", book.change(0, 1, 'z'), 6);
        CHECK.is("5 lines", Books.lines(book), "azna ban");
        CHECK.is("5 order", Books.order(book), "0/3:a 1/1:an 0/0:azna 1/0:ban 1/2:n 0/2:na 0/1:zna");
        CHECK.is("5 rank then", book.change(1, 2, 'a'), 1);
        Object[][] refusals = {
            {2, 9, 'A', "2:2"}, {-1, 0, 'a', "2:-1"}, {0, 4, 'A', "3:4"}, {0, -1, 'b', "3:-1"}, {1, 3, 'b', "3:3"},
            {0, 0, 'A', "4:65"}, {0, 0, '`', "4:96"}, {0, 0, '{', "4:123"}, {0, 0, '\uffff', "4:65535"},
            {0, 0, '\0', "4:0"}, {0, 0, 'a', "5:0"}, {0, 2, 'n', "5:2"}};
        for (Object[] refusal : refusals) {
            CHECK.refuses("5 change " + refusal[3], REFUSED,
                    () -> book.change((int) refusal[0], (int) refusal[1], (char) refusal[2]));
            CHECK.is("5 reason", Books.reasons(book), (String) refusal[3]);
        }
        CHECK.is("5 lines after", Books.lines(book), "azna baa");
        CHECK.is("5 changes", book.account(5), 4);
    }

    // Promise 6
    private static void swap() {
        HymnEndings book = Books.of("ab", "c", "def");
        CHECK.is("6 swap", book.swap(0, 2), 3);
        CHECK.is("6 lines", Books.lines(book), "def c ab");
        CHECK.is("6 swap", book.swap(2, 1), 2);
        CHECK.is("6 lines", Books.lines(book), "def ab c");
        CHECK.refuses("6 no line", REFUSED, () -> book.swap(3, -1));
        CHECK.is("6 reason", Books.reasons(book), "2:3");
        CHECK.refuses("6 no other line", REFUSED, () -> book.swap(0, -1));
        CHECK.is("6 reason", Books.reasons(book), "2:-1");
        CHECK.refuses("6 no line, the same", REFUSED, () -> book.swap(5, 5));
        CHECK.is("6 reason", Books.reasons(book), "2:5");
        CHECK.refuses("6 same line", REFUSED, () -> book.swap(2, 2));
        CHECK.is("6 reason", Books.reasons(book), "6:2");
        CHECK.is("6 lines", Books.lines(book), "def ab c");
        HymnEndings alike = Books.of("ab", "ab");
        CHECK.is("6 lines with the same letters", alike.swap(0, 1), 2);
        CHECK.is("6 it can be undone", alike.account(5), 3);
    }

    // Promise 7
    private static void join() {
        HymnEndings book = Books.of("ab", "c", "def");
        CHECK.is("7 other is later", book.join(0, 2), 0);
        CHECK.is("7 lines", Books.lines(book), "abdef c");
        CHECK.is("7 other is earlier", book.join(1, 0), 0);
        CHECK.is("7 lines", Books.lines(book), "cabdef");
        HymnEndings full = Books.of("abcde", "fghij", "fghijk", "l");
        CHECK.is("7 ten letters", full.join(1, 0), 0);
        CHECK.is("7 lines", Books.lines(full), "fghijabcde fghijk l");
        CHECK.refuses("7 eleven letters", REFUSED, () -> full.join(0, 2));
        CHECK.is("7 reason", Books.reasons(full), "7:11 11:1");
        CHECK.refuses("7 sixteen letters", REFUSED, () -> full.join(1, 0));
        CHECK.is("7 reason", Books.reasons(full), "7:16 11:10");
        CHECK.refuses("7 no line", REFUSED, () -> full.join(3, 4));
        CHECK.is("7 reason without the old cause", Books.reasons(full), "2:3");
        CHECK.refuses("7 no other line", REFUSED, () -> full.join(0, -4));
        CHECK.is("7 reason", Books.reasons(full), "2:-4");
        CHECK.refuses("7 same line", REFUSED, () -> full.join(0, 0));
        CHECK.is("7 reason", Books.reasons(full), "6:0");
        CHECK.is("7 lines", Books.lines(full), "fghijabcde fghijk l");
        CHECK.is("7 changes", full.account(5), 5);
    }

    // Promise 8
    private static void turn() {
        HymnEndings book = Books.of("abcd", "aba", "xyz", "ab");
        CHECK.is("8 turn", book.turn(0), 8);
        CHECK.is("8 lines", Books.lines(book), "dcba aba xyz ab");
        CHECK.is("8 turn", book.turn(2), 11);
        CHECK.is("8 lines", Books.lines(book), "dcba aba zyx ab");
        CHECK.is("8 turn", book.turn(3), 6);
        CHECK.is("8 lines", Books.lines(book), "dcba aba zyx ba");
        CHECK.refuses("8 the same", REFUSED, () -> book.turn(1));
        CHECK.is("8 reason", Books.reasons(book), "8:1");
        CHECK.refuses("8 no line", REFUSED, () -> book.turn(4));
        CHECK.is("8 reason", Books.reasons(book), "2:4");
        CHECK.refuses("8 no line", REFUSED, () -> book.turn(-1));
        CHECK.is("8 reason", Books.reasons(book), "2:-1");
        CHECK.is("8 changes", book.account(5), 7);
    }

    // Promise 9
    private static void lineOf() {
        HymnEndings book = Books.of("banana", "b", "abcabcab", "banana", "aaaaaaaaaa", "abab", "banan", "abcdefghij");
        int[][] due = {{6, 3, 2, 6, 3}, {1, 1, 1, 1, 0}, {8, 3, 1, 3, 5}, {6, 3, 2, 6, 3},
            {10, 1, 1, 1, 9}, {4, 2, 1, 2, 2}, {5, 3, 1, 5, 2}, {10, 10, 1, 10, 0}};
        for (int line = 0; line < due.length; line++) {
            for (int what = 0; what < 5; what++) {
                CHECK.is("9 lineOf " + line + " " + what, book.lineOf(line, what), due[line][what]);
            }
        }
        CHECK.refuses("9 no line", NO_INDEX, () -> book.lineOf(8, 0));
        CHECK.refuses("9 no line", NO_INDEX, () -> book.lineOf(-1, 0));
        CHECK.refuses("9 no line comes first", NO_INDEX, () -> book.lineOf(8, 5));
        CHECK.refuses("9 no what", WRONG, () -> book.lineOf(0, 5));
        CHECK.refuses("9 no what", WRONG, () -> book.lineOf(0, -1));
    }

    // Promise 10
    private static void letter() {
        HymnEndings book = Books.of("az", "q");
        CHECK.is("10 letter", book.letter(0, 0), 'a');
        CHECK.is("10 letter", book.letter(0, 1), 'z');
        CHECK.is("10 letter", book.letter(1, 0), 'q');
        for (int[] at : new int[][] {{0, 2}, {0, -1}, {1, 1}, {2, 0}, {-1, 0}, {-1, 10}, {8, 0}, {0, 10},
                {Integer.MAX_VALUE, Integer.MAX_VALUE}, {Integer.MIN_VALUE, 0}}) {
            CHECK.refuses("10 letter", NO_INDEX, () -> book.letter(at[0], at[1]));
            CHECK.refuses("12 rank", NO_INDEX, () -> book.rank(at[0], at[1]));
            CHECK.refuses("13 rankAgain", NO_INDEX, () -> book.rankAgain(at[0], at[1]));
            CHECK.refuses("15 commonOf", NO_INDEX, () -> book.commonOf(at[0], at[1], 0, 0));
            CHECK.refuses("15 commonOf", NO_INDEX, () -> book.commonOf(0, 0, at[0], at[1]));
        }
    }

    // Promise 11
    private static void ending() {
        HymnEndings book = Books.of("ab", "b", "ab", "aab");
        CHECK.is("11 order", Books.order(book), "3/0:aab 0/0:ab 2/0:ab 3/1:ab 0/1:b 1/0:b 2/1:b 3/2:b");
        CHECK.is("11 line", book.ending(3, false), 3);
        CHECK.is("11 place", book.ending(3, true), 1);
        CHECK.refuses("11 no rank", NONE, () -> book.ending(8, true));
        CHECK.refuses("11 no rank", NONE, () -> book.ending(8, false));
        CHECK.refuses("11 no rank", NONE, () -> book.ending(-1, false));
        HymnEndings full = new HymnEndings();
        for (int line = 0; line < 8; line++) {
            Books.add(full, "aaaaaaaaaa");
        }
        CHECK.is("11 last line", full.ending(79, false), 7);
        CHECK.is("11 last place", full.ending(79, true), 0);
        CHECK.is("11 first place", full.ending(0, true), 9);
        CHECK.is("11 place", full.ending(8, true), 8);
        CHECK.is("11 line", full.ending(15, false), 7);
        CHECK.refuses("11 no rank", NONE, () -> full.ending(80, false));
    }

    // Promise 12
    private static void rank() {
        HymnEndings book = Books.of("ab", "b", "ab", "aab");
        CHECK.is("12 rank", book.rank(3, 0), 0);
        CHECK.is("12 rank", book.rank(0, 0), 1);
        CHECK.is("12 rank", book.rank(2, 0), 2);
        CHECK.is("12 rank", book.rank(3, 1), 3);
        CHECK.is("12 rank", book.rank(1, 0), 5);
        CHECK.is("12 rank", book.rank(3, 2), 7);
        book.swap(0, 3);
        CHECK.is("12 rank after a swap", book.rank(0, 2), 4);
        book.undo();
        CHECK.is("12 rank after undo", book.rank(0, 0), 1);
    }

    // Promise 13
    private static void rankAgain() {
        HymnEndings book = Books.of("banana", "an", "aaaaaaaaaa", "nab", "an");
        for (int line = 0; line < 5; line++) {
            for (int place = 0; place < book.lineOf(line, 0); place++) {
                CHECK.is("13 rankAgain", book.rankAgain(line, place), book.rank(line, place));
            }
        }
        CHECK.is("13 first", book.rankAgain(0, 5), 0);
        CHECK.is("13 last", book.rankAgain(0, 2), 22);
    }

    // Promise 14
    private static void common() {
        HymnEndings book = Books.of("ab", "b", "ab", "aab");
        int[] due = {0, 1, 2, 2, 0, 1, 1, 1};
        for (int rank = 1; rank < 8; rank++) {
            CHECK.is("14 common " + rank, book.common(rank), due[rank]);
        }
        CHECK.refuses("14 rank 0", NONE, () -> book.common(0));
        CHECK.refuses("14 rank 8", NONE, () -> book.common(8));
        CHECK.refuses("14 rank -1", NONE, () -> book.common(-1));
        book.cut(3);
        CHECK.is("14 after a cut", book.common(1), 2);
        CHECK.refuses("14 rank 5", NONE, () -> book.common(5));
    }

    // Promise 15
    private static void commonOf() {
        HymnEndings book = Books.of("banana", "ananas", "xyzxyzxyzx");
        CHECK.is("15 in a line", book.commonOf(0, 1, 0, 3), 3);
        CHECK.is("15 in two lines", book.commonOf(0, 1, 1, 0), 5);
        CHECK.is("15 the same way back", book.commonOf(1, 0, 0, 1), 5);
        CHECK.is("15 itself", book.commonOf(2, 0, 2, 0), 10);
        CHECK.is("15 none", book.commonOf(0, 0, 1, 0), 0);
        CHECK.is("15 shared letters", book.commonOf(2, 0, 2, 3), 7);
    }

    // Promise 16
    private static void longest() {
        CHECK.is("16 in a line", Books.of("banana").longest(), 3);
        CHECK.is("16 in two lines", Books.of("xabcd", "abcde").longest(), 4);
        CHECK.is("16 none", Books.of("abc", "def").longest(), 0);
        CHECK.is("16 ten", Books.of("abcdefghij", "b", "abcdefghij").longest(), 10);
        CHECK.is("16 one letter", Books.of("abca").longest(), 1);
        HymnEndings full = new HymnEndings();
        for (int line = 0; line < 8; line++) {
            Books.add(full, "aaaaaaaaaa");
        }
        CHECK.is("16 of a full book", full.longest(), 10);
        CHECK.is("17 of a full book", full.longestRank(), 72);
        CHECK.is("18 of a full book", full.pieces(), 10);
        CHECK.is("19 of a full book", full.piecesAgain(), 10);
        CHECK.is("33 of a full book", full.writeLongest(), 10);
        CHECK.is("36 of a full book", full.repeatShare(), 79.0 / 80.0);
        CHECK.is("37 of a full book", full.account(3), 8 * 55 - 10);
    }

    // Promise 17
    private static void longestRank() {
        HymnEndings book = Books.of("banana", "an");
        CHECK.is("17 rank", book.longestRank(), 2);
        CHECK.is("17 rank of the first of two pieces", Books.of("zxzx", "abab").longestRank(), 0);
        CHECK.is("17 rank of the first of three", Books.of("xy", "xy", "xy").longestRank(), 0);
        CHECK.is("17 behind shorter ones", Books.of("xyxy", "aa").longestRank(), 2);
        HymnEndings none = Books.of("abc");
        CHECK.refuses("17 none", NONE, none::longestRank);
        CHECK.refuses("17 no lines", NONE, new HymnEndings()::longestRank);
    }

    // Promise 18
    private static void pieces() {
        CHECK.is("18 banana", Books.of("banana").pieces(), 15);
        CHECK.is("18 aaa", Books.of("aaa").pieces(), 3);
        CHECK.is("18 two lines", Books.of("abc", "bcd").pieces(), 9);
        CHECK.is("18 all different", Books.of("abcdefghij", "klmnopqrst").pieces(), 110);
        CHECK.is("18 same lines", Books.of("abc", "abc").pieces(), 6);
    }

    // Promise 19
    private static void piecesAgain() {
        CHECK.is("19 banana", Books.of("banana").piecesAgain(), 15);
        CHECK.is("19 aaa", Books.of("aaa").piecesAgain(), 3);
        CHECK.is("19 two lines", Books.of("abc", "bcd").piecesAgain(), 9);
        CHECK.is("19 all different", Books.of("abcdefghij", "klmnopqrst").piecesAgain(), 110);
        CHECK.is("19 same lines", Books.of("abc", "abc").piecesAgain(), 6);
    }

    // Promise 20
    private static void kinds() {
        CHECK.is("20 kinds", Books.of("ab", "abc", "ab", "ba", "abc").kinds(), 3);
        CHECK.is("20 one", Books.of("z", "z", "z").kinds(), 1);
        CHECK.is("20 beginnings", Books.of("a", "aa", "aaa").kinds(), 3);
    }

    // Promise 21
    private static void finds() {
        HymnEndings book = Books.of("banana", "an", "nab");
        Books.type(book, "an");
        CHECK.is("21 an", book.finds(), 3);
        CHECK.is("21 buffer stays", book.account(6), 2);
        book.append('a');
        CHECK.is("21 ana", book.finds(), 2);
        book.append('b');
        CHECK.is("21 anab", book.finds(), 0);
        Books.type(book, "aaaaaa");
        CHECK.is("21 ten letters", book.finds(), 0);
        book.append('a');
        CHECK.refuses("21 eleven letters", WRONG, book::finds);
        CHECK.is("21 buffer stays", book.account(6), 11);
        HymnEndings empty = new HymnEndings();
        CHECK.refuses("21 no word", WRONG, empty::finds);
        empty.append('a');
        CHECK.is("21 no lines", empty.finds(), 0);
        empty.append('+');
        CHECK.refuses("21 no letter", WRONG, empty::finds);
        HymnEndings ten = Books.of("abcdefghij", "zzzzzzzzzz");
        Books.type(ten, "abcdefghij");
        CHECK.is("21 a whole line", ten.finds(), 1);
        HymnEndings last = Books.of("abcdefghij", "zzzzzzzzzz");
        Books.type(last, "z");
        CHECK.is("21 the last ones", last.finds(), 10);
        HymnEndings near = Books.of("abc", "bcd", "ccd");
        Books.type(near, "b");
        CHECK.is("21 between near letters", near.finds(), 2);
        Books.type(near, "d");
        CHECK.is("21 between near words", near.finds(), 0);
    }

    // Promise 22
    private static void findsAgain() {
        HymnEndings book = Books.of("banana", "an", "nab");
        Books.type(book, "an");
        CHECK.is("22 an", book.findsAgain(), 3);
        CHECK.is("22 buffer stays", book.account(6), 2);
        book.append('a');
        CHECK.is("22 ana", book.findsAgain(), 2);
        book.append('b');
        CHECK.is("22 anab", book.findsAgain(), 0);
        Books.type(book, "aaaaaaa");
        CHECK.refuses("22 eleven letters", WRONG, book::findsAgain);
        CHECK.refuses("22 no word", WRONG, new HymnEndings()::findsAgain);
        HymnEndings upper = Books.of("a");
        upper.append('A');
        CHECK.refuses("22 no letter", WRONG, upper::findsAgain);
    }

    // Promise 23
    private static void firstFind() {
        HymnEndings book = Books.of("banana", "an", "nab");
        CHECK.refuses("23 no word", WRONG, book::firstFind);
        book.append('n');
        CHECK.is("23 n", book.firstFind(), book.rank(1, 1));
        book.append('a');
        CHECK.is("23 na", book.firstFind(), book.rank(0, 4));
        CHECK.is("23 buffer stays", book.account(6), 2);
        book.append('n');
        CHECK.is("23 nan", book.firstFind(), 10);
        book.append('z');
        CHECK.refuses("23 nanz", NONE, book::firstFind);
        book.append(';');
        CHECK.refuses("23 nanz;", WRONG, book::firstFind);
        HymnEndings empty = new HymnEndings();
        empty.append('a');
        CHECK.refuses("23 no lines", NONE, empty::firstFind);
    }

    // Promise 24
    private static void isLine() {
        HymnEndings book = Books.of("banana", "an");
        CHECK.refuses("24 no word", WRONG, book::isLine);
        book.append('a');
        CHECK.is("24 a", book.isLine(), false);
        book.append('n');
        CHECK.is("24 an", book.isLine(), true);
        book.swap(0, 1);
        CHECK.is("24 an as the first line", book.isLine(), true);
        book.append('a');
        CHECK.is("24 ana", book.isLine(), false);
        CHECK.is("24 buffer stays", book.account(6), 3);
        book.append('1');
        CHECK.refuses("24 ana1", WRONG, book::isLine);
        HymnEndings empty = new HymnEndings();
        empty.append('a');
        CHECK.is("24 no lines", empty.isLine(), false);
        Books.type(empty, "aaaaaaaaaa");
        CHECK.refuses("24 eleven letters", WRONG, empty::isLine);
    }

    // Promise 25
    private static void shared() {
        HymnEndings book = Books.of("xbanana", "anan", "q", "nanab");
        CHECK.is("25 shared", book.shared(0, 1), 4);
        CHECK.is("25 way back", book.shared(1, 0), 4);
        CHECK.is("25 another", book.shared(0, 3), 4);
        CHECK.is("25 none", book.shared(0, 2), 0);
        CHECK.is("25 the same line", book.shared(0, 0), 7);
        CHECK.refuses("25 no line", NO_INDEX, () -> book.shared(4, 0));
        CHECK.refuses("25 no other line", NO_INDEX, () -> book.shared(0, 4));
        CHECK.refuses("25 no other line", NO_INDEX, () -> book.shared(0, -1));
        CHECK.refuses("25 no line", NO_INDEX, () -> book.shared(-1, -1));
    }

    // Promise 26
    private static void alone() {
        HymnEndings book = Books.of("banana", "an", "ananab", "nab");
        CHECK.is("26 two letters", book.alone(0), 2);
        CHECK.is("26 four letters", book.alone(2), 4);
        CHECK.refuses("26 none", NONE, () -> book.alone(1));
        CHECK.refuses("26 none", NONE, () -> book.alone(3));
        CHECK.is("26 the only line", Books.of("zz").alone(0), 1);
        CHECK.refuses("26 same lines", NONE, () -> Books.of("ab", "ab").alone(0));
        CHECK.is("26 all ten", Books.of("aaaaaaaaaa", "aaaaaaaaa").alone(0), 10);
        CHECK.refuses("26 no line", NO_INDEX, () -> book.alone(4));
        CHECK.refuses("26 no line", NO_INDEX, () -> book.alone(-1));
        CHECK.refuses("26 no lines", NO_INDEX, () -> new HymnEndings().alone(0));
    }

    // Promise 27
    private static void alonePlace() {
        HymnEndings book = Books.of("banana", "an", "ananab", "nab");
        CHECK.is("27 place", book.alonePlace(0), 0);
        CHECK.is("27 place", book.alonePlace(2), 2);
        CHECK.refuses("27 none", NONE, () -> book.alonePlace(1));
        CHECK.is("27 the only line", Books.of("zz").alonePlace(0), 0);
        CHECK.is("27 last place", Books.of("aaaaaaaaab", "aaaaaaaaa").alonePlace(0), 9);
        CHECK.is("27 first of two", Books.of("axyx", "a").alonePlace(0), 1);
        CHECK.refuses("27 same lines", NONE, () -> Books.of("ab", "ab").alonePlace(1));
        CHECK.refuses("27 no line", NO_INDEX, () -> book.alonePlace(4));
        CHECK.refuses("27 no line", NO_INDEX, () -> book.alonePlace(-1));
    }

    // Promise 28
    private static void isTurned() {
        HymnEndings book = Books.of("abc", "cba", "aba", "cb", "cbab", "cbb");
        CHECK.is("28 turned", book.isTurned(0, 1), true);
        CHECK.is("28 way back", book.isTurned(1, 0), true);
        CHECK.is("28 not itself", book.isTurned(0, 0), false);
        CHECK.is("28 itself", book.isTurned(2, 2), true);
        CHECK.is("28 shorter", book.isTurned(0, 3), false);
        CHECK.is("28 longer", book.isTurned(0, 4), false);
        CHECK.is("28 other letters", book.isTurned(0, 5), false);
        CHECK.is("28 other letters within", Books.of("abcd", "dxba").isTurned(0, 1), false);
        CHECK.refuses("28 no line", NO_INDEX, () -> book.isTurned(6, 0));
        CHECK.refuses("28 no other line", NO_INDEX, () -> book.isTurned(0, 6));
        CHECK.refuses("28 no line", NO_INDEX, () -> book.isTurned(-1, 0));
        CHECK.refuses("28 no other line", NO_INDEX, () -> book.isTurned(0, -1));
    }

    // Promise 29
    private static void commands() {
        HymnEndings book = new HymnEndings();
        CHECK.is("29 all kinds", Books.command(book, "+abc;+zyxwvutsrq;+ab;=01z;x01;t0;j12;-0"), 8);
        CHECK.is("29 lines", Books.lines(book), "azcab");
        CHECK.is("29 buffer", book.account(6), 0);
        CHECK.is("29 one change", book.account(5), 1);
        CHECK.is("29 order", Books.order(book), "0/3:ab 0/0:azcab 0/4:b 0/2:cab 0/1:zcab");
        CHECK.is("29 one command", Books.command(book, "t0"), 1);
        CHECK.is("29 lines", Books.lines(book), "bacza");
        CHECK.is("29 undo", book.undo(), 1);
        CHECK.is("29 lines", Books.lines(book), "azcab");
        CHECK.is("29 undo", book.undo(), 0);
        CHECK.is("29 no lines", book.account(0), 0);
        String most = "+abc" + ";x01;x10".repeat(7);
        Books.add(book, "b");
        CHECK.is("29 sixty characters", Books.command(book, most), 15);
        CHECK.is("29 lines", Books.lines(book), "b abc");
        CHECK.is("29 twenty commands", Books.command(book, "-0" + ";+c;-0".repeat(9) + ";+d"), 20);
        CHECK.is("29 lines", Books.lines(book), "c d");
        HymnEndings full = new HymnEndings();
        CHECK.is("29 a short command ends the buffer", Books.command(full, "+ab" + ";-0;+a".repeat(9) + ";-0"), 20);
        CHECK.is("29 no lines", full.account(0), 0);
    }

    // Promise 29
    private static void commandsRefused() {
        String[][] refusals = {
            {"-2", "10:0 2:2"}, {"+c;-9", "10:1 2:9"}, {"=20z", "10:0 2:2"}, {"=02z", "10:0 3:2"},
            {"=00a", "10:0 5:0"}, {"=11d;=11d", "10:1 5:1"}, {"x00", "10:0 6:0"}, {"x92", "10:0 2:9"},
            {"x02", "10:0 2:2"}, {"j11", "10:0 6:1"}, {"j20", "10:0 2:2"}, {"j03", "10:0 2:3"},
            {"+abcdefghij;j20", "10:1 7:12 11:2"}, {"+abcdefghi;t0;j12", "10:2 7:11 11:9"},
            {"t7", "10:0 2:7"}, {"+aba;t2;-0", "10:1 8:2"}, {"+a;+b;+c;+d;+e;+f;+g", "10:6 1:8"}};
        for (String[] refusal : refusals) {
            HymnEndings book = Books.of("ab", "bc");
            CHECK.refuses("29 " + refusal[0], REFUSED, () -> Books.command(book, refusal[0]));
            CHECK.is("29 reasons of " + refusal[0], Books.reasons(book), refusal[1]);
            CHECK.is("29 lines after " + refusal[0], Books.lines(book), "ab bc");
            CHECK.is("29 order after " + refusal[0], Books.order(book), "0/0:ab 0/1:b 1/0:bc 1/1:c");
            CHECK.is("29 buffer after " + refusal[0], book.account(6), 0);
            CHECK.is("29 changes after " + refusal[0], book.account(5), 2);
            CHECK.is("29 fault after " + refusal[0], book.faultPosition(), -1);
        }
    }

    // Promise 29, with the fault positions of the terms
    private static void commandFaults() {
        Object[][] faults = {
            {"", 0}, {"a", 0}, {";", 0}, {" -0", 0}, {"T0", 0}, {"0", 0}, {"\u0174", 0}, {"+", 1}, {"+;", 1}, {"+1", 1},
            {"+A", 1}, {"+aB", 2}, {"+a0", 2}, {"+a`", 2}, {"+a{", 2}, {"+abcdefghij", -1}, {"+abcdefghijk", 11},
            {"+abcdefghij;", 12}, {"+a+b", 2}, {"+a;", 3}, {"+a;;", 3}, {"+a;t", 4}, {"-", 1}, {"-a", 1}, {"-/", 1},
            {"-:", 1}, {"-0", -1}, {"-00", 2}, {"-0;", 3}, {"-0-", 2}, {"=", 1}, {"=0", 2}, {"=00", 3}, {"=0x", 2},
            {"=x", 1}, {"=00;", 3}, {"=000", 3}, {"=00A", 3}, {"=00b", -1}, {"=00bc", 4}, {"=0;", 2}, {"x", 1},
            {"x0", 2}, {"x0;", 2}, {"x01", -1}, {"x012", 3}, {"xx", 1}, {"j", 1}, {"j0", 2}, {"j0a", 2}, {"j01", -1},
            {"j01 ", 3}, {"t", 1}, {"tt", 1}, {"t0", -1}, {"t0t", 2}, {"t0;x01;=00q;-1;+zz;j", 20},
            {"-0;".repeat(20), 60}, {SIXTY, 0}, {"+\0", 1}, {"t0\n", 2}};
        for (Object[] fault : faults) {
            HymnEndings book = Books.of("abcd", "c");
            String text = (String) fault[0];
            Books.type(book, text);
            if ((int) fault[1] >= 0) {
                CHECK.refuses("29 " + text, WRONG, book::commands);
                CHECK.is("29 lines after " + text, Books.lines(book), "abcd c");
                CHECK.is("29 changes after " + text, book.account(5), 2);
                CHECK.refuses("29 no reason after " + text, NONE, () -> book.reason(0, false));
            } else {
                CHECK.is("29 " + text, book.commands(), 1);
                CHECK.is("29 changes after " + text, book.account(5), 3);
            }
            CHECK.is("30 fault of " + text, book.faultPosition(), (int) fault[1]);
            CHECK.is("29 buffer after " + text, book.account(6), 0);
        }
    }

    // Promise 30
    private static void faultPosition() {
        HymnEndings book = Books.of("ab");
        CHECK.is("30 no call", book.faultPosition(), -1);
        CHECK.refuses("30 a fault", WRONG, () -> Books.command(book, "t0;="));
        CHECK.is("30 position", book.faultPosition(), 4);
        book.cut(0);
        book.undo();
        book.save();
        book.restore();
        CHECK.is("30 it stays", book.faultPosition(), 4);
        CHECK.refuses("30 a fault", WRONG, book::commands);
        CHECK.is("30 of no text", book.faultPosition(), 0);
        CHECK.refuses("30 refused", REFUSED, () -> Books.command(book, "-1"));
        CHECK.is("30 no fault", book.faultPosition(), -1);
        CHECK.refuses("30 a fault", WRONG, () -> Books.command(book, "t;"));
        CHECK.is("30 position", book.faultPosition(), 1);
        Books.command(book, "t0");
        CHECK.is("30 no fault", book.faultPosition(), -1);
    }

    // Promise 31
    private static void reason() {
        HymnEndings book = Books.of("abcdef", "fedcba");
        CHECK.refuses("31 nothing refused", NONE, () -> book.reason(0, true));
        CHECK.refuses("31 depth 3", WRONG, () -> book.reason(3, true));
        CHECK.refuses("31 depth -1", WRONG, () -> book.reason(-1, false));
        CHECK.refuses("31 refused", REFUSED, () -> Books.command(book, "t0;t1;j01"));
        CHECK.is("31 reason", book.reason(0, false), 10);
        CHECK.is("31 detail", book.reason(0, true), 2);
        CHECK.is("31 cause", book.reason(1, false), 7);
        CHECK.is("31 its detail", book.reason(1, true), 12);
        CHECK.is("31 its cause", book.reason(2, false), 11);
        CHECK.is("31 the detail of that", book.reason(2, true), 6);
        CHECK.refuses("31 depth 3", WRONG, () -> book.reason(3, false));
        book.cut(0);
        book.undo();
        book.save();
        book.restore();
        CHECK.refuses("31 other exceptions keep none", NONE, () -> book.ending(99, true));
        CHECK.is("31 it stays", Books.reasons(book), "10:2 7:12 11:6");
        CHECK.refuses("31 refused", REFUSED, () -> book.join(1, 0));
        CHECK.is("31 in place of it", Books.reasons(book), "7:12 11:6");
        CHECK.refuses("31 no cause", NONE, () -> book.reason(2, true));
        CHECK.refuses("31 refused", REFUSED, () -> Books.command(book, "-7"));
        CHECK.is("31 in place of it", Books.reasons(book), "10:0 2:7");
        CHECK.refuses("31 no cause", NONE, () -> book.reason(2, false));
    }

    // Promise 32
    private static void write() {
        HymnEndings book = Books.of("abc", "men", "amen", "abcdefghij");
        CHECK.is("32 write", book.write(book.rank(2, 1)), 7);
        CHECK.is("32 written", Books.written(book, 7), "2/1:men");
        CHECK.is("32 longest", book.write(book.rank(3, 0)), 14);
        CHECK.is("32 written", Books.written(book, 14), "3/0:abcdefghij");
        CHECK.is("32 shortest", book.write(book.rank(3, 9)), 5);
        CHECK.is("32 written", Books.written(book, 5), "3/9:j");
        CHECK.refuses("32 no rank", NONE, () -> book.write(20));
        CHECK.refuses("32 no rank", NONE, () -> book.write(-1));
        CHECK.is("32 it stays", Books.written(book, 5), "3/9:j");
        book.cut(3);
        book.undo();
        book.save();
        book.restore();
        CHECK.is("32 it stays", Books.written(book, 5), "3/9:j");
        CHECK.is("32 first rank", book.write(0), 7);
        CHECK.is("32 written", Books.written(book, 7), "0/0:abc");
    }

    // Promise 33
    private static void writeLongest() {
        HymnEndings book = Books.of("xyxy", "cdcd", "q");
        CHECK.is("33 length", book.writeLongest(), 2);
        CHECK.is("33 written", Books.written(book, 2), "cd");
        HymnEndings ten = Books.of("abcdefghij", "b", "abcdefghij");
        ten.write(0);
        CHECK.is("33 ten", ten.writeLongest(), 10);
        CHECK.is("33 written", Books.written(ten, 10), "abcdefghij");
        ten.cut(0);
        CHECK.is("33 one", ten.writeLongest(), 1);
        CHECK.is("33 written", Books.written(ten, 1), "b");
        ten.cut(0);
        CHECK.refuses("33 none", NONE, ten::writeLongest);
        CHECK.is("33 it stays", Books.written(ten, 1), "b");
        CHECK.refuses("33 no lines", NONE, new HymnEndings()::writeLongest);
    }

    // Promise 34
    private static void character() {
        HymnEndings book = Books.of("men");
        CHECK.refuses("34 nothing at first", NO_INDEX, () -> book.character(0));
        book.write(0);
        CHECK.is("34 first", book.character(0), '0');
        CHECK.is("34 second", book.character(1), '/');
        CHECK.is("34 last", book.character(5), 'n');
        CHECK.refuses("34 behind", NO_INDEX, () -> book.character(6));
        CHECK.refuses("34 before", NO_INDEX, () -> book.character(-1));
        CHECK.refuses("34 far", NO_INDEX, () -> book.character(Integer.MAX_VALUE));
    }

    // Promise 35
    private static void meanLetters() {
        CHECK.is("35 mean", Books.of("a", "b", "cd").meanLetters(), 4f / 3f);
        CHECK.is("35 whole", Books.of("abc", "a").meanLetters(), 2f);
        CHECK.is("35 seventh", Books.of("ab", "b", "c", "d", "e", "f", "g").meanLetters(), 8f / 7f);
        CHECK.is("35 one letter", Books.of("a").meanLetters(), 1f);
        CHECK.refuses("35 no lines", NO_NUMBER, new HymnEndings()::meanLetters);
    }

    // Promise 36
    private static void repeatShare() {
        CHECK.is("36 share", Books.of("banana", "an").repeatShare(), 0.625);
        CHECK.is("36 third", Books.of("aab").repeatShare(), 1.0 / 3.0);
        CHECK.is("36 none", Books.of("abc").repeatShare(), 0.0);
        CHECK.is("36 one letter", Books.of("a").repeatShare(), 0.0);
        CHECK.refuses("36 no lines", NO_NUMBER, new HymnEndings()::repeatShare);
    }

    // Promise 37
    private static void account() {
        HymnEndings book = Books.of("banana", "an", "aba", "z");
        Books.type(book, "Q!");
        int[] due = {4, 12, 4, 13, 2, 4, 2};
        for (int what = 0; what < due.length; what++) {
            CHECK.is("37 account " + what, book.account(what), due[what]);
        }
        CHECK.refuses("37 account 7", WRONG, () -> book.account(7));
        CHECK.refuses("37 account -1", WRONG, () -> book.account(-1));
        CHECK.is("37 same when turned", Books.of("aba", "ab", "z", "abcba", "abca").account(4), 3);
        CHECK.is("37 all letters", Books.of("abcdefghij", "klmnopqrst", "uvwxyz").account(2), 26);
    }

    // Promise 38
    private static void undo() {
        HymnEndings book = Books.of("abc", "de");
        book.change(0, 0, 'x');
        book.swap(0, 1);
        book.turn(0);
        book.join(1, 0);
        book.cut(0);
        Books.command(book, "+q;+r");
        Books.type(book, "zz");
        book.write(0);
        String[] due = {"", "xbced", "ed xbc", "de xbc", "xbc de", "abc de", "abc", ""};
        for (int index = 0; index < due.length; index++) {
            CHECK.is("38 undo " + index, book.undo(), 7 - index);
            CHECK.is("38 lines " + index, Books.lines(book), due[index]);
        }
        CHECK.refuses("38 no more", NO_STATE, book::undo);
        CHECK.is("38 buffer stays", book.account(6), 2);
        CHECK.is("38 written stays", Books.written(book, 5), "0/0:q");
        HymnEndings many = Books.of("a");
        for (int index = 1; index < 20; index++) {
            many.change(0, 0, (char) ('a' + index));
            CHECK.is("38 kept", many.account(5), Math.min(8, index + 1));
        }
        for (int index = 0; index < 8; index++) {
            CHECK.is("38 undo", many.undo(), 7 - index);
            CHECK.is("38 letter", many.letter(0, 0), 's' - index);
        }
        CHECK.refuses("38 eight at most", NO_STATE, many::undo);
        CHECK.is("38 letter", many.letter(0, 0), 'l');
        many.change(0, 0, 'z');
        CHECK.is("38 one again", many.undo(), 0);
        CHECK.refuses("38 refused changes are none", REFUSED, () -> many.turn(0));
        CHECK.refuses("38 nothing to undo", NO_STATE, many::undo);
    }

    // Promise 39
    private static void save() {
        HymnEndings book = new HymnEndings();
        CHECK.is("39 no lines", book.save(), 0);
        Books.add(book, "ab");
        CHECK.is("39 one line", book.save(), 1);
        CHECK.is("39 it is no change", book.account(5), 1);
        Books.add(book, "cd");
        CHECK.is("39 two lines", book.save(), 2);
        book.cut(0);
        book.cut(0);
        CHECK.is("39 in place of the earlier ones", book.restore(), 2);
        CHECK.is("39 lines", Books.lines(book), "ab cd");
    }

    // Promise 40
    private static void restore() {
        HymnEndings book = Books.of("ab", "cd");
        CHECK.refuses("40 no snapshot", NO_STATE, book::restore);
        book.save();
        book.turn(0);
        book.cut(1);
        Books.type(book, "xy");
        CHECK.is("40 restore", book.restore(), 2);
        CHECK.is("40 lines", Books.lines(book), "ab cd");
        CHECK.is("40 order", Books.order(book), "0/0:ab 0/1:b 1/0:cd 1/1:d");
        CHECK.is("40 nothing to undo", book.account(5), 0);
        CHECK.refuses("40 undo", NO_STATE, book::undo);
        CHECK.is("40 buffer stays", book.account(6), 2);
        book.cut(0);
        CHECK.is("40 undo of a later change", book.undo(), 0);
        book.cut(0);
        CHECK.is("40 the snapshot is kept", book.restore(), 2);
        CHECK.is("40 lines", Books.lines(book), "ab cd");
        HymnEndings empty = new HymnEndings();
        empty.save();
        Books.command(empty, "+a;+b");
        CHECK.is("40 no lines", empty.restore(), 0);
        CHECK.is("40 no endings", empty.account(1), 0);
        CHECK.refuses("40 no ending", NONE, () -> empty.ending(0, false));
    }
}
