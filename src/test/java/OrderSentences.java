/** The promises of the order of all endings and of pieces: 11 to 19, 32 to 34, and 36. */
final class OrderSentences extends Sentences {
    private static final String TEN = "abcdefghij";

    OrderSentences(Check check, Document document) {
        super(check, document);
    }

    @Override
    void test() {
        ending();
        endingOfNoRank();
        rank();
        rankOfNothing();
        rankAgain();
        rankAgainOfNothing();
        common();
        commonFromRankOne();
        commonOfNothing();
        commonOf();
        commonOfNoEnding();
        longest();
        noLongest();
        longestRank();
        noLongestRank();
        pieces();
        piecesAgain();
        write();
        writeInPlace();
        writeNoRank();
        writeLongest();
        writeNoLongest();
        character();
        noCharacter();
        repeatShare();
        shareOfNoLines();
    }

    private void ending() {
        promise(11, "Returns the line or the place of an ending. Returns the number.");
        HymnEndings one = Books.of("q");
        is("the only one's line", one.ending(0, false), 0);
        is("the only one's place", one.ending(0, true), 0);
        HymnEndings book = Books.of("b", "b", "b", "b", "b", "b", "b", "zyxwvutsra");
        is("the line of the first one", book.ending(0, false), 7);
        is("the place of the first one", book.ending(0, true), 9);
        is("the line of the last one", book.ending(16, false), 7);
        is("the place of the last one", book.ending(16, true), 0);
        is("the line of the last but nine", book.ending(7, false), 6);
        is("the place of the last but nine", book.ending(7, true), 0);
        HymnEndings full = Books.fullest();
        is("the line of the eightieth", full.ending(79, false), 7);
        is("the place of the eightieth", full.ending(79, true), 0);
    }

    private void endingOfNoRank() {
        promise(11, "Throws NoSuchElementException if there is no such rank");
        HymnEndings book = Books.of("abc", "d");
        for (int rank : new int[] {-1, 4, 80, MOST, LEAST}) {
            refuses("the line of rank " + rank, NONE, () -> book.ending(rank, false));
            refuses("the place of rank " + rank, NONE, () -> book.ending(rank, true));
        }
        refuses("rank 80 of a full book", NONE, () -> Books.fullest().ending(80, true));
        refuses("rank 0 of no lines", NONE, () -> new HymnEndings().ending(0, false));
        book.cut(1);
        refuses("a rank fewer after a cut", NONE, () -> book.ending(3, false));
        book.undo();
        is("a rank more after undo", book.ending(3, false), 1);
    }

    private void rank() {
        promise(12, "Returns the rank of an ending, by putting all endings in order. Returns the rank.");
        HymnEndings book = Books.of("cba", "a", "cb");
        int[][] due = {{5, 3, 0}, {1}, {4, 2}};
        for (int line = 0; line < due.length; line++) {
            for (int place = 0; place < due[line].length; place++) {
                is(line + "/" + place, book.rank(line, place), due[line][place]);
            }
        }
        is("the last place of the last line of a full book", Books.fullest().rank(7, 9), 7);
        is("the first place of the last line of a full book", Books.fullest().rank(7, 0), 79);
    }

    private void rankOfNothing() {
        promise(12, "Throws IndexOutOfBoundsException if there is no such line or place");
        HymnEndings book = Books.of(TEN, "z");
        for (int number : new int[] {-1, 10, MOST, LEAST}) {
            refuses("line " + number, NO_INDEX, () -> book.rank(number, 0));
            refuses("place " + number, NO_INDEX, () -> book.rank(0, number));
        }
        refuses("line 2", NO_INDEX, () -> book.rank(2, 0));
        refuses("place 1 of one letter", NO_INDEX, () -> book.rank(1, 1));
        refuses("a new object", NO_INDEX, () -> new HymnEndings().rank(0, 0));
    }

    private void rankAgain() {
        promise(13, "Returns the same by a second way: by counting the endings that come before it. Returns the rank.");
        HymnEndings book = Books.of("banana", "an", "aaaaaaaaaa", "nab", "an", "b", "z", "a");
        for (int line = 0; line < 8; line++) {
            int letters = book.lineOf(line, 0);
            for (int place = 0; place < letters; place++) {
                is(line + "/" + place, book.rankAgain(line, place), book.rank(line, place));
            }
        }
        is("the first of a full book", Books.fullest().rankAgain(0, 9), 0);
        is("the last of a full book", Books.fullest().rankAgain(7, 0), 79);
        is("the only one", Books.of("q").rankAgain(0, 0), 0);
    }

    private void rankAgainOfNothing() {
        promise(13, "Throws IndexOutOfBoundsException if there is no such line or place");
        HymnEndings book = Books.of(TEN, "z");
        for (int number : new int[] {-1, 10, MOST, LEAST}) {
            refuses("line " + number, NO_INDEX, () -> book.rankAgain(number, 0));
            refuses("place " + number, NO_INDEX, () -> book.rankAgain(0, number));
        }
        refuses("line 2", NO_INDEX, () -> book.rankAgain(2, 0));
        refuses("place 1 of one letter", NO_INDEX, () -> book.rankAgain(1, 1));
        refuses("a new object", NO_INDEX, () -> new HymnEndings().rankAgain(0, 0));
    }

    private void common() {
        promise(14, "Returns how many letters an ending begins with that the ending with the rank 1 less begins"
                + " with, too.");
        HymnEndings book = Books.of("abcd", "abce", "abc", "b");
        // a..: abc abcd abce; b..: b bc bcd bce; c..: c cd ce; d; e
        int[] due = {3, 3, 0, 1, 2, 2, 0, 1, 1, 0, 0};
        for (int rank = 1; rank <= due.length; rank++) {
            is("rank " + rank, book.common(rank), due[rank - 1]);
        }
        is("ten letters", Books.fullest().common(79), 10);
    }

    private void commonFromRankOne() {
        promise(14, "the rank, from 1 on Returns how many.");
        is("rank 1 of two", Books.of("aa").common(1), 1);
        is("rank 1 of two", Books.of("ab").common(1), 0);
        is("the last rank", Books.of("baa").common(2), 0);
        refuses("rank 0", NONE, () -> Books.of("aa").common(0));
    }

    private void commonOfNothing() {
        promise(14, "Throws NoSuchElementException if there is no such ending, or none with the rank 1 less");
        HymnEndings book = Books.of("aaa");
        for (int rank : new int[] {0, -1, 3, 80, MOST, LEAST}) {
            refuses("rank " + rank, NONE, () -> book.common(rank));
        }
        refuses("the only ending", NONE, () -> Books.of("a").common(0));
        refuses("rank 1 of one", NONE, () -> Books.of("a").common(1));
        refuses("rank 80 of a full book", NONE, () -> Books.fullest().common(80));
        refuses("no lines", NONE, () -> new HymnEndings().common(0));
        refuses("no lines", NONE, () -> new HymnEndings().common(1));
    }

    private void commonOf() {
        promise(15, "Returns with how many same letters two endings begin. Returns how many.");
        HymnEndings book = Books.of("aaaaaaaaaa", "aaaaaaaaab", "q", "r", "s", "t", "u", "aaaaaaaaaa");
        is("an ending and itself", book.commonOf(0, 0, 0, 0), 10);
        is("the last letter and itself", book.commonOf(0, 9, 0, 9), 1);
        is("all ten letters", book.commonOf(0, 0, 7, 0), 10);
        is("nine of ten letters", book.commonOf(0, 0, 1, 0), 9);
        is("up to the end of the other", book.commonOf(0, 0, 7, 9), 1);
        is("up to the end of the one", book.commonOf(7, 9, 0, 0), 1);
        is("none", book.commonOf(2, 0, 3, 0), 0);
        is("none of the last letter", book.commonOf(1, 9, 0, 0), 0);
    }

    private void commonOfNoEnding() {
        promise(15, "Throws IndexOutOfBoundsException if there is no such line or place, for either");
        HymnEndings book = Books.of(TEN, "z");
        for (int number : new int[] {-1, 10, MOST, LEAST}) {
            refuses("line " + number, NO_INDEX, () -> book.commonOf(number, 0, 0, 0));
            refuses("place " + number, NO_INDEX, () -> book.commonOf(0, number, 0, 0));
            refuses("other line " + number, NO_INDEX, () -> book.commonOf(0, 0, number, 0));
            refuses("other place " + number, NO_INDEX, () -> book.commonOf(0, 0, 0, number));
        }
        refuses("line 2", NO_INDEX, () -> book.commonOf(2, 0, 0, 0));
        refuses("place 1 of one letter", NO_INDEX, () -> book.commonOf(1, 1, 0, 0));
        refuses("other line 2", NO_INDEX, () -> book.commonOf(0, 0, 2, 0));
        refuses("other place 1 of one letter", NO_INDEX, () -> book.commonOf(0, 0, 1, 1));
        refuses("a new object", NO_INDEX, () -> new HymnEndings().commonOf(0, 0, 0, 0));
    }

    private void longest() {
        promise(16, "Returns the letters of the longest piece that stands at two places of the book, or more, in"
                + " one line or in several.");
        is("one line", Books.of("aaaaaaaaaa").longest(), 9);
        is("two letters", Books.of("aa").longest(), 1);
        is("the first and the last line", Books.of(TEN, "k", "l", "m", "n", "o", "p", TEN).longest(), 10);
        is("eight places", Books.fullest().longest(), 10);
        is("one letter at the end of two lines", Books.of("abcz", "defz").longest(), 1);
        is("the longer of two", Books.of("xyzxyz", "aa").longest(), 3);
    }

    private void noLongest() {
        promise(16, "Returns how many letters, 0 without one.");
        is("no lines", new HymnEndings().longest(), 0);
        is("one letter", Books.of("a").longest(), 0);
        is("all letters different", Books.of(TEN, "klmnopqrst", "uvwxyz").longest(), 0);
        HymnEndings book = Books.of("ab", "ab");
        book.cut(1);
        is("after a cut", book.longest(), 0);
        book.undo();
        is("after undo", book.longest(), 2);
    }

    private void longestRank() {
        promise(17, "Returns the least rank of an ending that begins with a longest such piece. Returns the rank.");
        is("rank 0", Books.of("aa").longestRank(), 0);
        is("the last but one of 80", Books.fullest().longestRank(), 72);
        is("the last but one", Books.of("zz", "a").longestRank(), 1);
        is("the first of two pieces", Books.of("zyzy", "abab").longestRank(), 0);
        is("behind a shorter one", Books.of("aa", "zyzy").longestRank(), 4);
        is("the least of eight", Books.of("b", "b", "b", "b", "b", "b", "b", "ab").longestRank(), 1);
    }

    private void noLongestRank() {
        promise(17, "Throws NoSuchElementException if there is none");
        refuses("no lines", NONE, () -> new HymnEndings().longestRank());
        refuses("one letter", NONE, () -> Books.of("a").longestRank());
        refuses("all letters different", NONE, () -> Books.of(TEN, "klmnopqrst", "uvwxyz").longestRank());
        HymnEndings book = Books.of("a", "a");
        book.cut(0);
        refuses("after a cut", NONE, book::longestRank);
    }

    private void pieces() {
        promise(18, "Returns how many pieces there are: of each ending, its letters less those that it has in"
                + " common with the one before. Returns how many.");
        is("no lines", new HymnEndings().pieces(), 0);
        is("one letter", Books.of("a").pieces(), 1);
        is("one letter in eight lines", Books.of("a", "a", "a", "a", "a", "a", "a", "a").pieces(), 1);
        is("a full book of one letter", Books.fullest().pieces(), 10);
        is("the most in a line", Books.of(TEN).pieces(), 55);
        is("the most in a book", mostPieces().pieces(), 8 * 45 + 24);
    }

    private void piecesAgain() {
        promise(19, "Returns the same by a second way: piece by piece, each one that did not stand further ahead."
                + " Returns how many.");
        is("no lines", new HymnEndings().piecesAgain(), 0);
        is("one letter", Books.of("a").piecesAgain(), 1);
        is("one letter in eight lines", Books.of("a", "a", "a", "a", "a", "a", "a", "a").piecesAgain(), 1);
        is("a full book of one letter", Books.fullest().piecesAgain(), 10);
        is("the most in a line", Books.of(TEN).piecesAgain(), 55);
        is("the most in a book", mostPieces().piecesAgain(), 8 * 45 + 24);
        is("in a later line", Books.of("b", "ab", "cab").piecesAgain(), Books.of("b", "ab", "cab").pieces());
    }

    /** In each line 45 pieces of two letters or more that stand nowhere else; of the letters, f and v are missing. */
    private static HymnEndings mostPieces() {
        HymnEndings book = new HymnEndings();
        for (int step = 1; step <= 8; step++) {
            for (int index = 0; index < 10; index++) {
                book.append((char) ('a' + (step * 9 + index * step) % 26));
            }
            book.add();
        }
        return book;
    }

    private void write() {
        promise(32, "Writes an ending,");
        HymnEndings book = Books.of("b", "c", "amen", "d", "e", "f", "g", TEN);
        is("as in the document", book.write(book.rank(2, 1)), 7);
        is("written", Books.written(book), "2/1:men");
        promise(32, "its line, \"/\", its place, \":\" and its letters; as in \"2/1:men\". Returns the length of"
                + " what is written.");
        is("the longest", book.write(book.rank(7, 0)), 14);
        is("written", Books.written(book), "7/0:abcdefghij");
        is("the shortest", book.write(book.rank(7, 9)), 5);
        is("written", Books.written(book), "7/9:j");
        is("the first rank", book.write(0), 14);
        is("the last rank", book.write(19), 5);
        is("written", Books.written(book), "2/3:n");
    }

    private void writeInPlace() {
        promise(32, "in place of what was written before:");
        HymnEndings book = Books.of(TEN, "a");
        book.write(book.rank(0, 0));
        book.write(book.rank(0, 9));
        is("a shorter one", Books.written(book), "0/9:j");
        book.write(book.rank(0, 0));
        is("a longer one", Books.written(book), "0/0:abcdefghij");
        book.writeLongest();
        is("a piece", Books.written(book), "a");
        book.write(book.rank(1, 0));
        is("an ending", Books.written(book), "1/0:a");
    }

    private void writeNoRank() {
        promise(32, "Throws NoSuchElementException if there is no such rank");
        HymnEndings book = Books.of("ab", "c");
        for (int rank : new int[] {-1, 3, 80, MOST, LEAST}) {
            refuses("rank " + rank, NONE, () -> book.write(rank));
            is("nothing is written", Books.written(book), "");
        }
        book.write(2);
        refuses("rank 3", NONE, () -> book.write(3));
        is("it stays", Books.written(book), "1/0:c");
        refuses("no lines", NONE, () -> new HymnEndings().write(0));
        refuses("rank 80 of a full book", NONE, () -> Books.fullest().write(80));
    }

    private void writeLongest() {
        promise(33, "Writes the first longest piece that stands at two places or more, by the order of a reader, in"
                + " place of what was written before. Returns its length.");
        HymnEndings book = Books.of("zyzy", "abab", "q");
        book.write(0);
        is("the first of two", book.writeLongest(), 2);
        is("written", Books.written(book), "ab");
        HymnEndings one = Books.of("ba", "ca");
        is("one letter", one.writeLongest(), 1);
        is("written", Books.written(one), "a");
        HymnEndings ten = Books.of("jihgfedcba", "k", "jihgfedcba");
        is("ten letters", ten.writeLongest(), 10);
        is("written", Books.written(ten), "jihgfedcba");
    }

    private void writeNoLongest() {
        promise(33, "Throws NoSuchElementException if there is none");
        refuses("no lines", NONE, () -> new HymnEndings().writeLongest());
        HymnEndings book = Books.of("a", TEN.substring(1));
        refuses("all letters different", NONE, book::writeLongest);
        is("nothing is written", Books.written(book), "");
        book.write(0);
        refuses("all letters different", NONE, book::writeLongest);
        is("it stays", Books.written(book), "0/0:a");
    }

    private void character() {
        promise(34, "Returns a character of what was written, nothing at first. the index, from 0 Returns the"
                + " character.");
        HymnEndings book = Books.of(TEN, TEN);
        refuses("nothing at first", NO_INDEX, () -> book.character(0));
        book.write(0);
        is("the first", book.character(0), '0');
        is("the last", book.character(13), 'j');
        book.writeLongest();
        is("the first of a piece", book.character(0), 'a');
        is("the last of a piece", book.character(9), 'j');
    }

    private void noCharacter() {
        promise(34, "Throws IndexOutOfBoundsException if there is no such index");
        HymnEndings book = Books.of(TEN, TEN);
        for (int index : new int[] {-1, 0, 1, MOST, LEAST}) {
            refuses("index " + index + " of nothing", NO_INDEX, () -> book.character(index));
        }
        book.write(0);
        for (int index : new int[] {-1, 14, 15, 60, MOST, LEAST}) {
            refuses("index " + index + " of an ending", NO_INDEX, () -> book.character(index));
        }
        book.writeLongest();
        for (int index : new int[] {-1, 10, 13}) {
            refuses("index " + index + " of a piece", NO_INDEX, () -> book.character(index));
        }
    }

    private void repeatShare() {
        promise(36, "Returns the share of the endings that have a first letter in common with the one before: their"
                + " number divided by that of all endings, both as doubles. Returns the share.");
        is("none", Books.of(TEN).repeatShare(), 0.0);
        is("one letter", Books.of("a").repeatShare(), 0.0);
        is("all but the first of 80", Books.fullest().repeatShare(), 79.0 / 80.0);
        is("a third", Books.of("aab").repeatShare(), 1.0 / 3.0);
        is("as doubles, not as floats", Books.of("aab").repeatShare() != 1f / 3f, true);
        is("in two lines", Books.of("a", "a").repeatShare(), 0.5);
    }

    private void shareOfNoLines() {
        promise(36, "Throws ArithmeticException if there are no lines");
        refuses("a new object", NO_NUMBER, () -> new HymnEndings().repeatShare());
        HymnEndings book = Books.of("aa");
        is("one line", book.repeatShare(), 0.5);
        book.cut(0);
        refuses("a line that was cut", NO_NUMBER, book::repeatShare);
        book.undo();
        is("a line again", book.repeatShare(), 0.5);
    }
}
