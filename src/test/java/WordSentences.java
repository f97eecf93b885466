/** The promises of the word in the text buffer: 21 to 24. */
final class WordSentences extends Sentences {
    private static final String TEN = "abcdefghij";

    WordSentences(Check check, Document document) {
        super(check, document);
    }

    @Override
    void test() {
        finds();
        findsNoWord();
        findsAgain();
        findsAgainNoWord();
        firstFind();
        firstFindNoWord();
        firstFindOfNone();
        isLine();
        isLineNoWord();
        theBufferStays();
    }

    private static HymnEndings asking(String word, String... lines) {
        HymnEndings book = Books.of(lines);
        Books.type(book, word);
        return book;
    }

    /** Texts of which each is nearly a word. */
    private static String[] noWords() {
        return new String[] {"", "abcdefghijk", "A", "aB", "a`", "{a", "a ", "1", "a;", "\0", "\u0161",
            "aaaaa\uffffaaaa", "0123456789".repeat(6), TEN.repeat(6)};
    }

    private void finds() {
        promise(21, "Returns at how many places lines have the word in the text buffer, by halving: endings that"
                + " begin with it stand side by side.");
        is("no lines", asking("a").finds(), 0);
        is("the only ending", asking("a", "a").finds(), 1);
        is("80 places", askingFull("a").finds(), 80);
        is("eight places", askingFull("aaaaaaaaaa").finds(), 8);
        is("ten letters", asking(TEN, "q", TEN).finds(), 1);
        is("a letter too many", asking(TEN, "bcdefghij", "abcdefghi").finds(), 0);
        is("ahead of all endings", asking("a", "bcd", "z").finds(), 0);
        is("behind all endings", asking("z", "abc", "y").finds(), 0);
        is("between endings", asking("bb", "ba", "bc").finds(), 0);
        is("places that share letters", asking("aba", "ababababab").finds(), 4);
        promise(21, "Returns how many.");
        is("the first ranks", asking("a", "ab", "a", "z").finds(), 2);
        is("the last ranks", asking("z", "zz", "a", "z").finds(), 3);
    }

    private static HymnEndings askingFull(String word) {
        HymnEndings book = Books.fullest();
        Books.type(book, word);
        return book;
    }

    private void findsNoWord() {
        promise(21, "Throws IllegalArgumentException if the buffer holds no word");
        for (String text : noWords()) {
            refuses(text, WRONG, () -> asking(text, TEN, "a").finds());
            refuses(text + ", no lines", WRONG, () -> asking(text).finds());
        }
    }

    private void findsAgain() {
        promise(22, "Returns the same by a second way: place by place.");
        is("no lines", asking("a").findsAgain(), 0);
        is("the only ending", asking("a", "a").findsAgain(), 1);
        is("80 places", askingFull("a").findsAgain(), 80);
        is("eight places", askingFull("aaaaaaaaaa").findsAgain(), 8);
        is("ten letters", asking(TEN, "q", TEN).findsAgain(), 1);
        is("a letter too many", asking(TEN, "bcdefghij", "abcdefghi").findsAgain(), 0);
        promise(22, "Returns how many.");
        is("the last places", asking("z", "az", "bz", "z").findsAgain(), 3);
        is("places that share letters", asking("aba", "ababababab").findsAgain(), 4);
    }

    private void findsAgainNoWord() {
        promise(22, "Throws IllegalArgumentException if the buffer holds no word");
        for (String text : noWords()) {
            refuses(text, WRONG, () -> asking(text, TEN, "a").findsAgain());
            refuses(text + ", no lines", WRONG, () -> asking(text).findsAgain());
        }
    }

    private void firstFind() {
        promise(23, "Returns the least rank of an ending that begins with the word in the text buffer.");
        is("rank 0", asking("a", "z", "a").firstFind(), 0);
        is("the only ending", asking("a", "a").firstFind(), 0);
        is("the last rank", asking("z", "abz", "b").firstFind(), 3);
        is("the least of 80", askingFull("a").firstFind(), 0);
        is("the least of eight", askingFull("aaaaaaaaaa").firstFind(), 72);
        promise(23, "Returns the rank.");
        is("ten letters", asking(TEN, "aa", TEN).firstFind(), 2);
        is("behind one that ends too early", asking("ab", "a", "abc").firstFind(), 1);
    }

    private void firstFindNoWord() {
        promise(23, "Throws IllegalArgumentException if the buffer holds no word");
        for (String text : noWords()) {
            refuses(text, WRONG, () -> asking(text, TEN, "a").firstFind());
            refuses(text + ", no lines", WRONG, () -> asking(text).firstFind());
        }
    }

    private void firstFindOfNone() {
        promise(23, "Throws NoSuchElementException if no line has it");
        refuses("no lines", NONE, () -> asking("a").firstFind());
        refuses("a letter too many", NONE, () -> asking(TEN, "bcdefghij", "abcdefghi").firstFind());
        refuses("ahead of all endings", NONE, () -> asking("a", "bcd").firstFind());
        refuses("behind all endings", NONE, () -> asking("z", "abc").firstFind());
        refuses("between endings", NONE, () -> asking("bb", "ba", "bc").firstFind());
        HymnEndings cut = asking("zz", "zz", "zy");
        cut.cut(0);
        refuses("a line that was cut", NONE, cut::firstFind);
        cut.undo();
        is("a line that is there again", cut.firstFind(), 4 - 1);
    }

    private void isLine() {
        promise(24, "Returns whether a line is the word in the text buffer.");
        is("no lines", asking("a").isLine(), false);
        is("one letter", asking("a", "a").isLine(), true);
        is("ten letters", asking(TEN, "a", TEN).isLine(), true);
        is("the last of eight", asking("h", "a", "b", "c", "d", "e", "f", "g", "h").isLine(), true);
        is("the first of eight", asking("a", "a", "b", "c", "d", "e", "f", "g", "h").isLine(), true);
        promise(24, "Returns whether it is so.");
        is("the beginning of a line", asking("abcdefghi", TEN).isLine(), false);
        is("the end of a line", asking("bcdefghij", TEN).isLine(), false);
        is("a line and a letter", asking(TEN, "abcdefghi").isLine(), false);
        is("a line but for its last letter", asking("abcdefghik", TEN).isLine(), false);
        is("a line but for its first letter", asking("bbcdefghij", TEN).isLine(), false);
    }

    private void isLineNoWord() {
        promise(24, "Throws IllegalArgumentException if the buffer holds no word");
        for (String text : noWords()) {
            refuses(text, WRONG, () -> asking(text, TEN, "a").isLine());
            refuses(text + ", no lines", WRONG, () -> asking(text).isLine());
        }
    }

    private void theBufferStays() {
        HymnEndings book = asking("bcdefghij", TEN);
        promise(21, "The buffer stays.");
        is("finds", book.finds(), 1);
        is("length", book.account(6), 9);
        promise(22, "The buffer stays.");
        is("findsAgain", book.findsAgain(), 1);
        is("length", book.account(6), 9);
        promise(23, "The buffer stays.");
        is("firstFind", book.firstFind(), 1);
        is("length", book.account(6), 9);
        promise(24, "The buffer stays.");
        is("isLine", book.isLine(), false);
        is("length", book.account(6), 9);
        is("the tenth letter", book.append('k'), 10);
        is("the word", book.add(), 1);
        is("lines", Books.lines(book), "abcdefghij bcdefghijk");
        HymnEndings eleven = asking("abcdefghijk", TEN);
        promise(24, "The buffer stays.");
        refuses("eleven letters", WRONG, eleven::isLine);
        refuses("eleven letters", WRONG, eleven::finds);
        refuses("eleven letters", WRONG, eleven::findsAgain);
        refuses("eleven letters", WRONG, eleven::firstFind);
        is("length", eleven.account(6), 11);
    }
}
