import java.util.LinkedHashMap;
import java.util.Map;
import java.util.function.Consumer;

/** The terms, but for reasons, changes and exceptions. */
final class TermsSentences extends Sentences {
    private static final String TEN = "abcdefghij";

    TermsSentences(Check check, Document document) {
        super(check, document);
    }

    @Override
    void test() {
        divisions();
        mostLines();
        numbers();
        fewestAndMostLetters();
        firstAndLastLetter();
        places();
        endings();
        eachPlaceHasOne();
        letterByLetter();
        noMoreLetters();
        lowerLine();
        firstAndLastRank();
        pieceHasALetter();
        pieceInALine();
        piecesAreOne();
        words();
        wordAtAPlace();
        leastPeriod();
        periodUpToTheEnd();
        greatestPeriod();
        oneCommandOrMore();
        betweenCommands();
        commandOfAWord();
        commandsOfNumbers();
        oneDigit();
        firstFault();
        endsTooEarly();
        eleventhLetter();
        asTheMethods();
        allOrNone();
        signInAText();
    }

    private void divisions() {
        terms("Divisions are rounded down, unless something else is told.");
        is("the mean tells something else", Books.of("ab", "a").meanLetters(), 1.5);
        is("the share tells something else", Books.of("aab").repeatShare() > 0.3, true);
    }

    private void mostLines() {
        terms("There are at most 8 lines");
        HymnEndings book = Books.of("a", "b", "c", "d", "e", "f", "g");
        is("the eighth line", Books.add(book, "h"), 7);
        refuses("a ninth line", REFUSED, () -> Books.add(book, "i"));
        is("lines", Books.lines(book), "a b c d e f g h");
        refuses("a ninth line by a command", REFUSED, () -> Books.command(book, "+i"));
        is("lines", book.account(0), 8);
        refuses("a ninth line by a command after others", REFUSED, () -> Books.command(book, "-0;+i;+j"));
        is("lines", Books.lines(book), "a b c d e f g h");
        is("one cut, one added", Books.command(book, "-0;+i"), 2);
        is("lines", Books.lines(book), "b c d e f g h i");
        book.join(0, 7);
        is("an eighth line after a join", Books.add(book, "j"), 7);
        is("lines", Books.lines(book), "bi c d e f g h j");
    }

    private void numbers() {
        terms(", numbered from 0,");
        HymnEndings book = new HymnEndings();
        is("the first", Books.add(book, "a"), 0);
        refuses("none below it", NO_INDEX, () -> book.lineOf(-1, 0));
        refuses("none behind it", NO_INDEX, () -> book.lineOf(1, 0));
        HymnEndings full = Books.full();
        is("the last", full.letter(7, 0), 'h');
        refuses("none behind the last", NO_INDEX, () -> full.lineOf(8, 0));
        refuses("none in an empty book", NO_INDEX, () -> new HymnEndings().lineOf(0, 0));
    }

    private void fewestAndMostLetters() {
        terms("each of 1 to 10 letters");
        HymnEndings book = new HymnEndings();
        refuses("no letter", REFUSED, book::add);
        is("one letter", Books.add(book, "a"), 0);
        is("its letters", book.lineOf(0, 0), 1);
        is("ten letters", Books.add(book, TEN), 1);
        is("its letters", book.lineOf(1, 0), 10);
        refuses("eleven letters", REFUSED, () -> Books.add(book, TEN + "k"));
        refuses("eleven letters by a join", REFUSED, () -> book.join(1, 0));
        refuses("eleven letters by a join the other way", REFUSED, () -> book.join(0, 1));
        refuses("eleven letters by a command", WRONG, () -> Books.command(book, "+" + TEN + "k"));
        refuses("eleven letters by commands", REFUSED, () -> Books.command(book, "j10"));
        refuses("no letter by a command", WRONG, () -> Books.command(book, "+"));
        is("ten letters by a command", Books.command(book, "+zyxwvutsrq"), 1);
        is("one letter by a command", Books.command(book, "+b"), 1);
        is("lines", Books.lines(book), "a abcdefghij zyxwvutsrq b");
        is("ten letters by a join", Books.of("abcdefghi", "j").join(0, 1), 0);
    }

    private void firstAndLastLetter() {
        terms("letters from a to z,");
        HymnEndings book = new HymnEndings();
        is("a", Books.add(book, "a"), 0);
        is("z", Books.add(book, "z"), 1);
        is("all others", Books.command(book, "+bcdefghijk;+lmnopqrstu;+vwxy"), 3);
        is("different letters", book.account(2), 26);
        for (char sign : new char[] {'a' - 1, 'z' + 1, 'A', 'Z', 'a' + 256, 'z' + 256, 0, '\uffff', ' ', '0'}) {
            refuses("code " + (int) sign + " as a line", REFUSED, () -> Books.add(book, "" + sign));
            refuses("code " + (int) sign + " in a line", REFUSED, () -> Books.add(book, "b" + sign + "b"));
            refuses("code " + (int) sign + " as a change", REFUSED, () -> book.change(0, 0, sign));
            refuses("code " + (int) sign + " in a command", WRONG, () -> Books.command(book, "+b" + sign));
        }
        book.change(0, 0, 'z');
        book.change(1, 0, 'a');
        is("changed", book.letter(0, 0) + "" + book.letter(1, 0), "za");
    }

    private void places() {
        terms(", at the places from 0 on.");
        HymnEndings book = Books.of(TEN, "q");
        is("the first of ten", book.letter(0, 0), 'a');
        is("the last of ten", book.letter(0, 9), 'j');
        is("the only one", book.letter(1, 0), 'q');
        refuses("before the first", NO_INDEX, () -> book.letter(1, -1));
        refuses("behind ten", NO_INDEX, () -> book.letter(0, 10));
        refuses("behind one, where the line above has a letter", NO_INDEX, () -> book.letter(1, 1));
    }

    private void endings() {
        terms("An ending is told by its line and its place: it has the letters of the line from this place on.");
        HymnEndings book = Books.of(TEN, "q");
        book.write(book.rank(0, 0));
        is("at the first place", Books.written(book), "0/0:abcdefghij");
        book.write(book.rank(0, 9));
        is("at the last place", Books.written(book), "0/9:j");
        book.write(book.rank(1, 0));
        is("of a line of one letter", Books.written(book), "1/0:q");
    }

    private void eachPlaceHasOne() {
        terms("Each place of each line has one.");
        is("no lines", new HymnEndings().account(1), 0);
        is("one letter", Books.of("a").account(1), 1);
        HymnEndings book = Books.fullest();
        is("a full book", book.account(1), 80);
        boolean[] isThere = new boolean[80];
        for (int rank = 0; rank < 80; rank++) {
            isThere[10 * book.ending(rank, false) + book.ending(rank, true)] = true;
        }
        for (int ending = 0; ending < 80; ending++) {
            is("line " + ending / 10 + ", place " + ending % 10, isThere[ending], true);
        }
    }

    private void letterByLetter() {
        terms("In the order of a reader, endings are compared letter by letter, a before z;");
        is("the first letter, whatever follows", Books.order(Books.of("z", "yz")), "1/0:yz 0/0:z 1/1:z");
        is("a before z", Books.of("z", "a").rank(1, 0), 0);
        HymnEndings book = Books.of("aaaaaaaaaz", "aaaaaaaaaa");
        is("the tenth letter", book.rank(1, 0), 9);
        is("the tenth letter", book.rank(0, 0), 10);
        is("the tenth letter, counted", book.rankAgain(1, 0), 9);
        is("the tenth letter, counted", book.rankAgain(0, 0), 10);
    }

    private void noMoreLetters() {
        terms("one that has no more letters, while the other one has, comes first;");
        is("a greater line without more letters", Books.order(Books.of("aa", "a")), "0/1:a 1/0:a 0/0:aa");
        HymnEndings book = Books.of("bbbbbbbbba", "bbbbbbbbb");
        is("nine of ten letters", book.rank(1, 0), book.rank(0, 0) - 1);
        is("nine of ten letters, counted", book.rankAgain(1, 0), book.rankAgain(0, 0) - 1);
    }

    private void lowerLine() {
        terms("of endings with the same letters, that of the lower line comes first.");
        HymnEndings book = Books.of("a", "xa", "a", "yyya", "a", "a", "a", "a");
        for (int line = 0; line < 8; line++) {
            int place = line == 1 ? 1 : line == 3 ? 3 : 0;
            is("line " + line, book.rank(line, place), line);
            is("line " + line + ", counted", book.rankAgain(line, place), line);
        }
        is("of ten letters", Books.fullest().rank(7, 0), 79);
        is("of ten letters, counted", Books.fullest().rankAgain(7, 0), 79);
    }

    private void firstAndLastRank() {
        terms("The rank of an ending is how many endings come before it.");
        HymnEndings one = Books.of("q");
        is("the only one", one.rank(0, 0), 0);
        HymnEndings book = Books.of("bzb", "ya");
        is("none before it", book.rank(1, 1), 0);
        is("all others before it", book.rank(0, 1), 4);
        is("none before it in a full book", Books.fullest().rank(0, 9), 0);
        is("79 before it", Books.fullest().rank(7, 0), 79);
    }

    private void pieceHasALetter() {
        terms("A piece is one or more letters");
        is("no piece without letters", new HymnEndings().pieces(), 0);
        is("no piece without letters", new HymnEndings().piecesAgain(), 0);
        is("one letter is a piece", Books.of("a").pieces(), 1);
        is("one letter is a piece", Books.of("a").piecesAgain(), 1);
        is("ten letters are a piece, too", Books.of(TEN).pieces(), 55);
        is("ten letters are a piece, too", Books.of(TEN).piecesAgain(), 55);
        is("none of no letters is shared", Books.of("a", "b").shared(0, 1), 0);
    }

    private void pieceInALine() {
        terms("that stand side by side in a line, in their order.");
        HymnEndings book = Books.of("abc", "def", "ca");
        Books.type(book, "cd");
        is("not from line to line", book.finds() + book.findsAgain(), 0);
        is("no letter between them", Books.of("abc", "ac").shared(0, 1), 1);
        is("not in another order", Books.of("abc", "cba").shared(0, 1), 1);
        is("pieces of two lines", Books.of("ab", "cd").pieces(), 6);
        is("pieces of two lines", Books.of("ab", "cd").piecesAgain(), 6);
    }

    private void piecesAreOne() {
        terms("Pieces with the same letters are one, wherever they stand.");
        is("in a line, with shared letters", Books.of("aaaaaaaaaa").pieces(), 10);
        is("in a line, with shared letters", Books.of("aaaaaaaaaa").piecesAgain(), 10);
        is("in eight lines", Books.fullest().pieces(), 10);
        is("in eight lines", Books.fullest().piecesAgain(), 10);
        is("at other places", Books.of("xab", "aby").pieces(), 9);
        is("at other places", Books.of("xab", "aby").piecesAgain(), 9);
    }

    private void words() {
        terms("A word is 1 to 10 letters.");
        HymnEndings book = Books.of("a", TEN);
        for (int length = 0; length <= 11; length++) {
            if (length == 0 || length == 11) {
                refuses(length + " letters are none", WRONG, book::isLine);
                refuses(length + " letters are none", WRONG, book::finds);
                refuses(length + " letters are none", WRONG, book::findsAgain);
                refuses(length + " letters are none", WRONG, book::firstFind);
            } else {
                is(length + " letters are one", book.isLine(), length == 1 || length == 10);
                is(length + " letters are one", book.finds(), length == 1 ? 2 : 1);
                is(length + " letters are one", book.findsAgain(), length == 1 ? 2 : 1);
                is(length + " letters are one", book.firstFind(), length == 1 ? 0 : 1);
            }
            book.append((char) ('a' + length));
        }
    }

    private void wordAtAPlace() {
        terms("A line has a word at a place if the letters of the word stand in it from there on.");
        String[][] due = {{"a", "1"}, {"j", "1"}, {"ij", "1"}, {TEN, "1"}, {"jk", "0"}, {"bcdefghijk", "0"},
            {"k", "1"}, {"ja", "0"}};
        for (String[] word : due) {
            HymnEndings book = Books.of(TEN, "k");
            Books.type(book, word[0]);
            is(word[0], Integer.toString(book.finds()), word[1]);
            is(word[0] + " place by place", Integer.toString(book.findsAgain()), word[1]);
        }
    }

    private void leastPeriod() {
        terms("The period of a line is the least number above 0 by which each letter is the same as that so many"
                + " places ahead of it,");
        is("above 0", Books.of("aaaaaaaaaa").lineOf(0, 3), 1);
        is("the least", Books.of("abababab").lineOf(0, 3), 2);
        is("each letter, the last one too", Books.of("aaaaaaaaab").lineOf(0, 3), 10);
        is("each letter, the first one too", Books.of("baaaaaaaaa").lineOf(0, 3), 10);
    }

    private void periodUpToTheEnd() {
        terms("for all letters that have one so far ahead;");
        is("a part at the end", Books.of("abcabcab").lineOf(0, 3), 3);
        is("one letter at the end", Books.of("abcdefghia").lineOf(0, 3), 9);
        is("half and a part", Books.of("abcdeabc").lineOf(0, 3), 5);
    }

    private void greatestPeriod() {
        terms("at most the number of its letters.");
        is("one letter", Books.of("q").lineOf(0, 3), 1);
        is("two letters", Books.of("qr").lineOf(0, 3), 2);
        is("ten letters", Books.of(TEN).lineOf(0, 3), 10);
    }

    private void oneCommandOrMore() {
        terms("The text buffer holds one or more commands");
        faultOf("", 0, new HymnEndings());
        is("one", Books.command(new HymnEndings(), "+a"), 1);
        is("two", Books.command(new HymnEndings(), "+a;-0"), 2);
        is("twenty, which fill the buffer", Books.command(new HymnEndings(), "+ab" + ";-0;+a".repeat(9) + ";-0"), 20);
    }

    private void betweenCommands() {
        terms("with \";\" between them:");
        faultOf(";", 0, Books.of("ab"));
        faultOf(";t0", 0, Books.of("ab"));
        faultOf("t0;", 3, Books.of("ab"));
        faultOf("t0;;t0", 3, Books.of("ab"));
        faultOf("t0t0", 2, Books.of("ab"));
        faultOf("t0,t0", 2, Books.of("ab"));
        faultOf("t0 ;t0", 2, Books.of("ab"));
        faultOf("t0:t0", 2, Books.of("ab"));
        faultOf("t0<t0", 2, Books.of("ab"));
        faultOf("t0;t0", -1, Books.of("ab"));
    }

    private void commandOfAWord() {
        terms("\"+\" and a word to add a line;");
        HymnEndings book = new HymnEndings();
        faultOf("+", 1, book);
        faultOf("+;", 1, book);
        faultOf("+0", 1, book);
        faultOf("+a", -1, book);
        faultOf("+" + TEN, -1, book);
        faultOf("+" + TEN + ";+b", -1, book);
        is("lines", Books.lines(book), "a abcdefghij abcdefghij b");
    }

    private void commandsOfNumbers() {
        terms("\"-\" and a line to cut it; \"=\", a line, a place and a letter to change one; \"x\" and two lines"
                + " to swap them; \"j\" and two lines to join them; and \"t\" and a line to turn it.");
        String[] whole = {"-0", "=02q", "x01", "j10", "t0"};
        String[] due = {"d", "abq d", "d abc", "dabc", "cba d"};
        for (int index = 0; index < whole.length; index++) {
            HymnEndings book = Books.of("abc", "d");
            for (int length = 1; length < whole[index].length(); length++) {
                faultOf(whole[index].substring(0, length), length, book);
                faultOf(whole[index].substring(0, length) + ";", length, book);
            }
            faultOf(whole[index] + "0", whole[index].length(), book);
            faultOf(whole[index] + "a", whole[index].length(), book);
            faultOf(whole[index], -1, book);
            is("lines after " + whole[index], Books.lines(book), due[index]);
        }
        for (char sign : new char[] {'a', 'z', 'T', 'X', 'J', ',', '*', '.', '<', '>', 'u', 's', 'w', 'y', 'i', 'k'}) {
            faultOf(sign + "00", 0, Books.of("abc"));
        }
    }

    private void oneDigit() {
        terms("Lines and places are told by one digit.");
        for (String head : new String[] {"-", "x", "x0", "j", "j0", "t", "=", "=0"}) {
            for (String sign : new String[] {"/", ":", "a", "-", ";", "\u0660"}) {
                faultOf(head + sign, head.length(), Books.of(TEN));
            }
        }
        for (String text : new String[] {"-00", "x010", "j010", "t00", "=000", "=100a"}) {
            HymnEndings book = Books.of(TEN);
            refuses(text, WRONG, () -> Books.command(book, text));
        }
        HymnEndings full = Books.of("a", "b", "c", "d", "e", "f", "g", "hi");
        is("the greatest line and the least", Books.command(full, "t7;=71z;x70;j71;+k;-7;-0"), 7);
        is("lines", Books.lines(full), "c d e f g ab");
        is("the greatest place", Books.command(Books.of(TEN), "=09a"), 1);
        for (String text : new String[] {"-8", "-9", "t9", "x90", "x09", "j89", "=90a", "=09a"}) {
            HymnEndings book = Books.of("b");
            refuses(text, REFUSED, () -> Books.command(book, text));
            is("no fault of " + text, book.faultPosition(), -1);
        }
    }

    private void firstFault() {
        terms("The fault position of a text is the index of its first character that cannot continue such a text,");
        faultOf("q", 0, new HymnEndings());
        faultOf("+a;-0;qqq", 6, new HymnEndings());
        faultOf("+A;q;", 1, new HymnEndings());
        faultOf("0123456789".repeat(6), 0, new HymnEndings());
        faultOf("-0;".repeat(19) + "-0-", 59, new HymnEndings());
        faultOf("-0;".repeat(18) + "+abcdE", 59, new HymnEndings());
    }

    private void endsTooEarly() {
        terms("or the length of the text if it ends too early;");
        faultOf("", 0, new HymnEndings());
        faultOf("t", 1, new HymnEndings());
        faultOf("+a;", 3, new HymnEndings());
        faultOf("+a;=", 4, new HymnEndings());
        faultOf("+a;=0", 5, new HymnEndings());
        faultOf("+a;=00", 6, new HymnEndings());
        faultOf("-0;".repeat(19) + "-0;", 60, new HymnEndings());
        faultOf("-0;".repeat(19) + "=00", 60, new HymnEndings());
        faultOf("-0;".repeat(19) + "x0", 59, new HymnEndings());
        faultOf("+abc" + ";x01;x10".repeat(7), -1, Books.of("d"));
    }

    private void eleventhLetter() {
        terms("an eleventh letter of a word cannot continue it.");
        faultOf("+abcdefghijk", 11, new HymnEndings());
        faultOf("+abcdefghijklm", 11, new HymnEndings());
        faultOf("+abcdefghij;", 12, new HymnEndings());
        faultOf("+abcdefghij", -1, new HymnEndings());
        faultOf("t0;+abcdefghijk", 14, Books.of("ab"));
        faultOf("t0;+abcdefghij", -1, Books.of("ab"));
        faultOf("+abcdefghij;+abcdefghij;+abcdefghij;+abcdefghij;+abcdefghijk", 59, new HymnEndings());
    }

    private void asTheMethods() {
        terms("The commands are carried out as the methods would,");
        Map<String, Consumer<HymnEndings>> methods = new LinkedHashMap<>();
        methods.put("+abcdefghij", book -> Books.add(book, TEN));
        methods.put("-0", book -> book.cut(0));
        methods.put("-2", book -> book.cut(2));
        methods.put("=00z", book -> book.change(0, 0, 'z'));
        methods.put("=19a", book -> book.change(1, 9, 'a'));
        methods.put("x02", book -> book.swap(0, 2));
        methods.put("x20", book -> book.swap(2, 0));
        methods.put("j02", book -> book.join(0, 2));
        methods.put("j20", book -> book.join(2, 0));
        methods.put("t0", book -> book.turn(0));
        methods.put("t2", book -> book.turn(2));
        methods.forEach((text, method) -> {
            HymnEndings book = Books.of("abc", "abababababab".substring(0, 10), "ba");
            HymnEndings other = Books.of("abc", "abababababab".substring(0, 10), "ba");
            is("one command " + text, Books.command(book, text), 1);
            method.accept(other);
            is("the book after " + text, Books.state(book).toString(), Books.state(other).toString());
        });
    }

    private void allOrNone() {
        terms("all of them or none.");
        HymnEndings book = new HymnEndings();
        String twenty = "+ab" + ";-0;+a".repeat(9);
        refuses("the last of twenty", REFUSED, () -> Books.command(book, twenty + ";t0"));
        is("the twentieth", Books.reasons(book), "10:19 8:0");
        is("none", book.account(0), 0);
        is("no endings", book.account(1), 0);
        is("all", Books.command(book, twenty + ";-0"), 20);
        is("all but the last", Books.command(book, twenty), 19);
        is("lines", Books.lines(book), "a");
        refuses("a fault behind a command", WRONG, () -> Books.command(book, "-0;q"));
        is("none", Books.lines(book), "a");
    }

    private void signInAText() {
        terms("A sign that is no letter from a to z is a fault in a text, never a refused command.");
        for (char sign : new char[] {'`', '{', 'A', 'Z', 0, '\uffff', 'a' + 256, ' ', '9'}) {
            HymnEndings book = Books.of("ab");
            faultOf("=00" + sign, 3, book);
            faultOf("=99" + sign, 3, book);
            faultOf("t9;+" + sign, 4, book);
            faultOf("+a" + sign, 2, book);
            is("nothing is refused", Books.reasons(book), "");
            is("lines", Books.lines(book), "ab");
        }
        HymnEndings book = Books.of("bc");
        faultOf("=00a", -1, book);
        faultOf("=01z", -1, book);
    }
}
