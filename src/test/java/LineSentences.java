/** The promises of single lines and pairs of them, 9, 10, 20, 25 to 28, 35, and of accounts, 37. */
final class LineSentences extends Sentences {
    private static final String TEN = "abcdefghij";

    LineSentences(Check check, Document document) {
        super(check, document);
    }

    @Override
    void test() {
        letters();
        differentLetters();
        sameLines();
        period();
        longestRepeat();
        lineOfNoLine();
        lineOfNoWhat();
        letter();
        letterOfNothing();
        kinds();
        shared();
        sharedByNone();
        sharedByNoLine();
        alone();
        aloneOfNoLine();
        aloneInNone();
        alonePlace();
        alonePlaceOfNoLine();
        alonePlaceInNone();
        isTurned();
        isTurnedOfNoLine();
        meanLetters();
        meanOfNoLines();
        accounts();
        accountsOfAnEmptyBook();
        accountsOfAFullBook();
        noAccount();
    }

    private void lineOf(int what, int due, String... lines) {
        is("of " + lines[0], Books.of(lines).lineOf(0, what), due);
    }

    private void letters() {
        promise(9, "Returns a number of a line. 0 for its letters,");
        for (int letters = 1; letters <= 10; letters++) {
            lineOf(0, letters, TEN.substring(0, letters), "zz");
        }
    }

    private void differentLetters() {
        promise(9, "1 for how many different letters it has,");
        lineOf(1, 1, "q", "r");
        lineOf(1, 1, "qqqqqqqqqq");
        lineOf(1, 2, "azazazazaz");
        lineOf(1, 9, "abcdefghia");
        lineOf(1, 10, TEN);
    }

    private void sameLines() {
        promise(9, "2 for how many lines have the same letters as it, itself included,");
        lineOf(2, 1, "ab");
        lineOf(2, 1, "ab", "a", "abc", "ba", "xab", "abab");
        lineOf(2, 2, "ab", "a", "b", "c", "d", "e", "f", "ab");
        is("of the last of two", Books.of("ab", "a", "b", "c", "d", "e", "f", "ab").lineOf(7, 2), 2);
        for (int line = 0; line < 8; line++) {
            is("all of them", Books.fullest().lineOf(line, 2), 8);
        }
        lineOf(2, 1, TEN, "abcdefghik", "bbcdefghij");
    }

    private void period() {
        promise(9, "3 for its period,");
        lineOf(3, 1, "q");
        lineOf(3, 1, "qqqqqqqqqq");
        lineOf(3, 5, "abcdeabcde");
        lineOf(3, 9, "abcdefghia");
        lineOf(3, 10, TEN);
        lineOf(3, 10, TEN, TEN);
    }

    private void longestRepeat() {
        promise(9, "4 for the letters of the longest piece that stands in it at two places, which can share"
                + " letters, 0 without one Returns the number.");
        lineOf(4, 0, "q");
        lineOf(4, 0, "q", "q");
        lineOf(4, 0, TEN, TEN);
        lineOf(4, 1, "qq");
        lineOf(4, 1, "abcdefghia");
        lineOf(4, 5, "abcdeabcde");
        lineOf(4, 8, "ababababab");
        lineOf(4, 9, "aaaaaaaaaa");
        lineOf(4, 3, "xabcyabc");
    }

    private void lineOfNoLine() {
        promise(9, "Throws IndexOutOfBoundsException if there is no such line");
        HymnEndings book = Books.of("a", "b");
        for (int what = 0; what <= 4; what++) {
            int number = what;
            refuses("a new object", NO_INDEX, () -> new HymnEndings().lineOf(0, number));
            for (int line : new int[] {-1, 2, 8, MOST, LEAST}) {
                refuses("line " + line, NO_INDEX, () -> book.lineOf(line, number));
            }
        }
    }

    private void lineOfNoWhat() {
        promise(9, "Throws IllegalArgumentException if what is not from 0 to 4");
        HymnEndings book = Books.of("a");
        for (int what : new int[] {-1, 5, 6, MOST, LEAST}) {
            refuses("what " + what, WRONG, () -> book.lineOf(0, what));
        }
    }

    private void letter() {
        promise(10, "Returns a letter. Returns the letter.");
        HymnEndings book = Books.of(TEN, "z", "a", "b", "c", "d", "e", "zyxwvutsrq");
        for (int place = 0; place < 10; place++) {
            is("place " + place + " of the first line", book.letter(0, place), 'a' + place);
            is("place " + place + " of the last line", book.letter(7, place), 'z' - place);
        }
        is("the only letter", book.letter(1, 0), 'z');
    }

    private void letterOfNothing() {
        promise(10, "Throws IndexOutOfBoundsException if there is no such line or place");
        HymnEndings book = Books.of(TEN, "z", TEN);
        for (int number : new int[] {-1, 10, MOST, LEAST}) {
            refuses("line " + number, NO_INDEX, () -> book.letter(number, 0));
            refuses("place " + number, NO_INDEX, () -> book.letter(0, number));
        }
        refuses("line 3", NO_INDEX, () -> book.letter(3, 0));
        refuses("place 1 of one letter", NO_INDEX, () -> book.letter(1, 1));
        refuses("the last place of the line above", NO_INDEX, () -> book.letter(1, -1));
        refuses("a new object", NO_INDEX, () -> new HymnEndings().letter(0, 0));
        book.cut(2);
        refuses("a line that was cut", NO_INDEX, () -> book.letter(2, 0));
    }

    private void kinds() {
        promise(20, "Returns how many lines with other letters there are: lines with the same letters count as one."
                + " Returns how many.");
        is("no lines", new HymnEndings().kinds(), 0);
        is("one line", Books.of("a").kinds(), 1);
        is("eight of a kind", Books.fullest().kinds(), 1);
        is("eight kinds", Books.full().kinds(), 8);
        is("the first and the last alike", Books.of("a", "b", "c", "d", "e", "f", "g", "a").kinds(), 7);
        is("one goes on", Books.of("a", "aa", "aaa", "aaaa", "aaaaaaaaaa", "aaaaaaaaa").kinds(), 6);
        is("turned is another kind", Books.of("ab", "ba").kinds(), 2);
    }

    private void shared() {
        promise(25, "Returns the letters of the longest piece that stands in both lines.");
        is("one letter at the ends", Books.of(TEN, "jz").shared(0, 1), 1);
        is("one letter at the beginnings", Books.of(TEN, "za").shared(0, 1), 1);
        is("nine letters", Books.of(TEN, "bcdefghijk").shared(0, 1), 9);
        is("the same letters", Books.of(TEN, TEN).shared(0, 1), 10);
        is("one in the other", Books.of(TEN, "efg").shared(1, 0), 3);
        is("the first and the last line", Books.of("ab", "c", "d", "e", "f", "g", "h", "ba").shared(7, 0), 1);
    }

    private void sharedByNone() {
        promise(25, "Returns how many letters, 0 without one; all of them if it is the same line.");
        is("without one", Books.of(TEN, "zyxwvutsrq").shared(0, 1), 0);
        is("one letter each", Books.of("a", "b").shared(0, 1), 0);
        is("the same line", Books.of(TEN, "q").shared(0, 0), 10);
        is("the same line of one letter", Books.of(TEN, "q").shared(1, 1), 1);
    }

    private void sharedByNoLine() {
        promise(25, "Throws IndexOutOfBoundsException if there is no such line");
        HymnEndings book = Books.of("a", "a");
        for (int line : new int[] {-1, 2, 8, MOST, LEAST}) {
            refuses("the one, " + line, NO_INDEX, () -> book.shared(line, 0));
            refuses("the other, " + line, NO_INDEX, () -> book.shared(0, line));
            refuses("both, " + line, NO_INDEX, () -> book.shared(line, line));
        }
        refuses("a new object", NO_INDEX, () -> new HymnEndings().shared(0, 0));
    }

    private void alone() {
        promise(26, "Returns the letters of the shortest piece of a line that stands in no other line. Returns how"
                + " many letters.");
        is("the only line", Books.of(TEN).alone(0), 1);
        is("the only line, of one letter", Books.of("q").alone(0), 1);
        is("the only letter", Books.of("q", "r").alone(1), 1);
        is("twice in the line itself", Books.of("qq", "r").alone(0), 1);
        is("all ten letters", Books.of("aaaaaaaaaa", "aaaaaaaaa").alone(0), 10);
        is("in the last line alone", Books.of("a", "b", "c", "d", "e", "f", "g", "abcdefg").alone(7), 2);
    }

    private void aloneOfNoLine() {
        promise(26, "Throws IndexOutOfBoundsException if there is no such line");
        HymnEndings book = Books.of("a", "a");
        for (int line : new int[] {-1, 2, 8, MOST, LEAST}) {
            refuses("line " + line, NO_INDEX, () -> book.alone(line));
        }
        refuses("a new object", NO_INDEX, () -> new HymnEndings().alone(0));
    }

    private void aloneInNone() {
        promise(26, "Throws NoSuchElementException if there is none");
        refuses("the first of two lines with the same letters", NONE, () -> Books.of(TEN, TEN).alone(0));
        refuses("the second", NONE, () -> Books.of(TEN, TEN).alone(1));
        refuses("a part of another line", NONE, () -> Books.of("j", TEN).alone(0));
        refuses("a part of the line above", NONE, () -> Books.of(TEN, "bcdefghij").alone(1));
        refuses("one letter in the last line", NONE, () -> Books.of("h", "b", "c", "d", "e", "f", "g", "ah").alone(0));
    }

    private void alonePlace() {
        promise(27, "Returns the first place at which such a shortest piece begins. Returns the place.");
        is("the first place", Books.of(TEN).alonePlace(0), 0);
        is("the first of all places", Books.of("qqqq", "r").alonePlace(0), 0);
        is("the last place", Books.of("aaaaaaaaaz", "a").alonePlace(0), 9);
        is("the first of two", Books.of("azaz", "a").alonePlace(0), 1);
        is("not that of a longer one", Books.of("abcz", "abc", "b").alonePlace(0), 3);
        is("all ten letters", Books.of("aaaaaaaaaa", "aaaaaaaaa").alonePlace(0), 0);
        is("two letters at the end", Books.of("aab", "aa", "b").alonePlace(0), 1);
    }

    private void alonePlaceOfNoLine() {
        promise(27, "Throws IndexOutOfBoundsException if there is no such line");
        HymnEndings book = Books.of("a", "a");
        for (int line : new int[] {-1, 2, 8, MOST, LEAST}) {
            refuses("line " + line, NO_INDEX, () -> book.alonePlace(line));
        }
        refuses("a new object", NO_INDEX, () -> new HymnEndings().alonePlace(0));
    }

    private void alonePlaceInNone() {
        promise(27, "Throws NoSuchElementException if there is none");
        refuses("the first of two lines with the same letters", NONE, () -> Books.of(TEN, TEN).alonePlace(0));
        refuses("the second", NONE, () -> Books.of(TEN, TEN).alonePlace(1));
        refuses("a part of another line", NONE, () -> Books.of("j", TEN).alonePlace(0));
    }

    private void isTurned() {
        promise(28, "Returns whether a line is another one, or the same, that is turned. Returns whether it is so.");
        is("another one of ten letters", Books.of(TEN, "jihgfedcba").isTurned(0, 1), true);
        is("another one of one letter", Books.of("a", "a").isTurned(1, 0), true);
        is("the same", Books.of("abba").isTurned(0, 0), true);
        is("the same of one letter", Books.of("a").isTurned(0, 0), true);
        is("the same that is another when it is turned", Books.of("ab").isTurned(0, 0), false);
        is("the same letters", Books.of("ab", "ab").isTurned(0, 1), false);
        is("but for the first letter", Books.of(TEN, "jihgfedcbb").isTurned(0, 1), false);
        is("but for the last letter", Books.of(TEN, "iihgfedcba").isTurned(0, 1), false);
        is("but for a letter more", Books.of("abc", "cbab").isTurned(0, 1), false);
        is("but for a letter less", Books.of("abc", "cb").isTurned(0, 1), false);
    }

    private void isTurnedOfNoLine() {
        promise(28, "Throws IndexOutOfBoundsException if there is no such line");
        HymnEndings book = Books.of("a", "a");
        for (int line : new int[] {-1, 2, 8, MOST, LEAST}) {
            refuses("the one, " + line, NO_INDEX, () -> book.isTurned(line, 0));
            refuses("the other, " + line, NO_INDEX, () -> book.isTurned(0, line));
            refuses("both, " + line, NO_INDEX, () -> book.isTurned(line, line));
        }
        refuses("a new object", NO_INDEX, () -> new HymnEndings().isTurned(0, 0));
    }

    private void meanLetters() {
        promise(35, "Returns the mean number of letters of the lines: all letters divided by the number of the"
                + " lines, both as floats. Returns the mean.");
        is("the least", Books.full().meanLetters(), 1f);
        is("the greatest", Books.fullest().meanLetters(), 10f);
        is("a third", Books.of("a", "b", "cd").meanLetters(), 4f / 3f);
        is("as floats, not as doubles", Books.of("a", "b", "cd").meanLetters() != 4.0 / 3.0, true);
        is("a seventh", Books.of("a", "b", "c", "d", "e", "f", "ghi").meanLetters(), 9f / 7f);
    }

    private void meanOfNoLines() {
        promise(35, "Throws ArithmeticException if there are no lines");
        refuses("a new object", NO_NUMBER, () -> new HymnEndings().meanLetters());
        HymnEndings book = Books.of("a");
        is("one line", book.meanLetters(), 1f);
        book.cut(0);
        refuses("a line that was cut", NO_NUMBER, book::meanLetters);
        book.undo();
        is("a line again", book.meanLetters(), 1f);
    }

    private void account(int what, int due, HymnEndings book) {
        is("account " + what, book.account(what), due);
    }

    private void accounts() {
        promise(37, "Returns an account. 0 for the lines, 1 for the endings, 2 for the different letters of the"
                + " book, 3 for the sum of what all endings have in common with the one before, 4 for the lines"
                + " that are the same when they are turned, 5 for the changes that can be undone, 6 for the"
                + " characters in the text buffer Returns the account.");
        HymnEndings book = Books.of("abab", "z", "bab", "ab");
        Books.type(book, "+-;");
        int[] due = {4, 10, 3, 12, 2, 4, 3};
        for (int what = 0; what <= 6; what++) {
            account(what, due[what], book);
        }
    }

    private void accountsOfAnEmptyBook() {
        promise(37, "Returns the account.");
        HymnEndings book = Books.of("abab");
        book.cut(0);
        int[] due = {0, 0, 0, 0, 0, 2, 0};
        for (int what = 0; what <= 6; what++) {
            account(what, due[what], book);
            account(what, 0, new HymnEndings());
        }
    }

    private void accountsOfAFullBook() {
        promise(37, "Returns the account.");
        HymnEndings book = Books.fullest();
        Books.type(book, TEN.repeat(6));
        int[] due = {8, 80, 1, 430, 8, 8, 60};
        for (int what = 0; what <= 6; what++) {
            account(what, due[what], book);
        }
        account(2, 26, Books.of("abcdefghij", "klmnopqrst", "uvwxyz"));
        account(2, 2, Books.of("a", "z"));
    }

    private void noAccount() {
        promise(37, "Throws IllegalArgumentException if what is not from 0 to 6");
        for (int what : new int[] {-1, 7, 8, MOST, LEAST}) {
            refuses("what " + what + " of a new object", WRONG, () -> new HymnEndings().account(what));
            refuses("what " + what, WRONG, () -> Books.of("ab").account(what));
        }
    }
}
