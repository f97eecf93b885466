/** The promises of what changes the book: 1 to 8, and of commands and reasons: 29 to 31. */
final class ChangeSentences extends Sentences {
    private static final String TEN = "abcdefghij";
    private static final String SIXTY = "0123456789".repeat(6);

    ChangeSentences(Check check, Document document) {
        super(check, document);
    }

    @Override
    void test() {
        newBook();
        append();
        appendToAFullBuffer();
        add();
        addEmptiesTheBuffer();
        addRefused();
        cut();
        cutRefused();
        change();
        changeRefused();
        swap();
        swapRefused();
        join();
        joinRefused();
        turn();
        turnRefused();
        commands();
        oneRefusedNoneCarriedOut();
        commandsEmptyTheBuffer();
        numberOfCommands();
        commandsWithAFault();
        commandsRefused();
        faultPosition();
        noFaultPosition();
        reason();
        reasonTooDeep();
        noReason();
    }

    private void newBook() {
        promise(1, "Creates a book without lines.");
        HymnEndings book = new HymnEndings();
        for (int what = 0; what <= 6; what++) {
            is("account " + what, book.account(what), 0);
        }
        refuses("no line", NO_INDEX, () -> book.lineOf(0, 0));
        refuses("no rank", NONE, () -> book.ending(0, false));
        is("another one stands for itself", Books.of("a").account(0) + book.account(0), 1);
    }

    private void append() {
        promise(2, "Appends a character to the text buffer. Returns the new length of the buffer.");
        HymnEndings book = new HymnEndings();
        for (int length = 1; length <= 60; length++) {
            is("length", book.append((char) (length * 1092)), length);
        }
        HymnEndings other = new HymnEndings();
        is("character 0", other.append('\0'), 1);
        is("the greatest character", other.append('\uffff'), 2);
        faultOf("", 0, other);
        is("an empty buffer again", other.append('a'), 1);
    }

    private void appendToAFullBuffer() {
        promise(2, "Throws IllegalStateException if the buffer contains 60 characters");
        HymnEndings book = new HymnEndings();
        Books.type(book, SIXTY.substring(1));
        is("the sixtieth", book.append('x'), 60);
        for (char character : new char[] {'x', 'a', ';', '\0', '\uffff'}) {
            refuses("the sixty-first", NO_STATE, () -> book.append(character));
            is("length", book.account(6), 60);
        }
        refuses("the text", WRONG, book::commands);
        is("after it", book.append('x'), 1);
    }

    private void add() {
        promise(3, "Adds a line, which is the word in the text buffer.");
        HymnEndings book = new HymnEndings();
        for (int length = 3; length <= 10; length++) {
            Books.add(book, TEN.substring(0, length));
        }
        is("lines", Books.lines(book), "abc abcd abcde abcdef abcdefg abcdefgh abcdefghi abcdefghij");
        promise(3, "Returns the number of the line.");
        HymnEndings other = new HymnEndings();
        for (int line = 0; line < 8; line++) {
            is("number", Books.add(other, TEN), line);
        }
        other.cut(0);
        is("number after a cut", Books.add(other, "zz"), 7);
    }

    private void addEmptiesTheBuffer() {
        promise(3, "The buffer is empty afterwards, also if an exception is thrown.");
        HymnEndings book = Books.of("a", "b", "c", "d", "e", "f", "g");
        Books.add(book, TEN);
        is("after a line", book.account(6), 0);
        refuses("a ninth line", REFUSED, () -> Books.add(book, "i"));
        is("after a ninth line", book.account(6), 0);
        refuses("no word", REFUSED, () -> Books.add(book, SIXTY));
        is("after no word", book.account(6), 0);
        is("the next character", book.append('a'), 1);
    }

    private void addRefused() {
        promise(3, "Throws UnsupportedOperationException if it is refused for the reason 9 or 1; the reason is kept");
        HymnEndings book = Books.of("a", "b", "c", "d", "e", "f", "g");
        refusedFor("9:0", book, book::add);
        refusedFor("9:11", book, () -> Books.add(book, TEN + "k"));
        refusedFor("9:3", book, () -> Books.add(book, "a b"));
        is("lines", Books.add(book, "h"), 7);
        refusedFor("9:0", book, book::add);
        refusedFor("1:8", book, () -> Books.add(book, "i"));
    }

    private void cut() {
        promise(4, "Cuts a line; the numbers of the later ones become 1 less. Returns how many lines there are then.");
        HymnEndings first = Books.full();
        is("the first of eight", first.cut(0), 7);
        is("lines", Books.lines(first), "b c d e f g h");
        is("the rank of a later one", first.rank(6, 0), 6);
        HymnEndings last = Books.full();
        is("the last of eight", last.cut(7), 7);
        is("lines", Books.lines(last), "a b c d e f g");
        HymnEndings only = Books.of("a");
        is("the only one", only.cut(0), 0);
        is("no endings", only.account(1), 0);
        is("a line again", Books.add(only, "b"), 0);
        HymnEndings sizes = Books.of("a", TEN, "b", "cd");
        is("of ten letters", sizes.cut(1), 3);
        is("lines", Books.lines(sizes), "a b cd");
    }

    private void cutRefused() {
        promise(4, "Throws UnsupportedOperationException if it is refused for the reason 2; the reason is kept");
        HymnEndings book = Books.of("a", "b");
        refusedFor("2:-1", book, () -> book.cut(-1));
        refusedFor("2:2", book, () -> book.cut(2));
        book.cut(1);
        refusedFor("2:1", book, () -> book.cut(1));
        book.cut(0);
        refusedFor("2:0", book, () -> book.cut(0));
    }

    private void change() {
        promise(5, "Changes a letter. Returns the rank of the ending at this place then.");
        HymnEndings book = Books.of("bbbbbbbbbb", "b");
        is("the first place, to the least rank", book.change(0, 0, 'a'), 0);
        is("the first place, to the greatest rank", book.change(0, 0, 'z'), 10);
        is("the last place, to the least rank", book.change(0, 9, 'a'), 0);
        is("the last place, to the greatest letter", book.change(0, 9, 'z'), 9);
        is("the other line", book.change(1, 0, 'z'), 9);
        is("lines", Books.lines(book), "zbbbbbbbbz z");
        HymnEndings full = Books.full();
        is("the last of eight lines", full.change(7, 0, 'a'), 1);
        is("lines", Books.lines(full), "a b c d e f g a");
    }

    private void changeRefused() {
        promise(5, "Throws UnsupportedOperationException if it is refused for the reason 2, 3, 4 or 5; the reason"
                + " is kept");
        HymnEndings book = Books.of(TEN, "z");
        refusedFor("2:2", book, () -> book.change(2, 0, 'b'));
        refusedFor("2:-1", book, () -> book.change(-1, 0, 'b'));
        refusedFor("3:10", book, () -> book.change(0, 10, 'b'));
        refusedFor("3:-1", book, () -> book.change(0, -1, 'b'));
        refusedFor("3:1", book, () -> book.change(1, 1, 'b'));
        refusedFor("4:96", book, () -> book.change(0, 0, '`'));
        refusedFor("4:123", book, () -> book.change(0, 0, '{'));
        refusedFor("5:9", book, () -> book.change(0, 9, 'j'));
        refusedFor("5:0", book, () -> book.change(1, 0, 'z'));
        is("lines", Books.lines(book), "abcdefghij z");
    }

    private void swap() {
        promise(6, "Swaps two lines. Returns the greater number of letters of both.");
        HymnEndings book = Books.of("q", "b", "c", "d", "e", "f", "g", TEN);
        is("the first and the last", book.swap(0, 7), 10);
        is("lines", Books.lines(book), "abcdefghij b c d e f g q");
        is("the other way", book.swap(7, 0), 10);
        is("lines", Books.lines(book), "q b c d e f g abcdefghij");
        is("of one letter", book.swap(1, 2), 1);
        is("neighbours", Books.lines(book), "q c b d e f g abcdefghij");
        is("ranks of lines with the same letters", Books.of("xa", "a").swap(0, 1), 2);
        HymnEndings alike = Books.of("ab", "b");
        alike.swap(0, 1);
        is("their order", Books.order(alike), "1/0:ab 0/0:b 1/1:b");
    }

    private void swapRefused() {
        promise(6, "Throws UnsupportedOperationException if it is refused for the reason 2, for the one line, then"
                + " for the other, or 6; the reason is kept");
        HymnEndings book = Books.full();
        refusedFor("2:8", book, () -> book.swap(8, -1));
        refusedFor("2:-1", book, () -> book.swap(-1, 8));
        refusedFor("2:8", book, () -> book.swap(7, 8));
        refusedFor("2:-1", book, () -> book.swap(0, -1));
        refusedFor("2:8", book, () -> book.swap(8, 8));
        refusedFor("6:7", book, () -> book.swap(7, 7));
        refusedFor("6:0", book, () -> book.swap(0, 0));
        is("lines", Books.lines(book), "a b c d e f g h");
    }

    private void join() {
        promise(7, "Puts the letters of a line behind those of another one; the former line is cut then. Returns"
                + " the number that the longer line has then.");
        HymnEndings book = Books.full();
        is("the last behind the first", book.join(0, 7), 0);
        is("lines", Books.lines(book), "ah b c d e f g");
        is("the first behind the last", book.join(6, 0), 5);
        is("lines", Books.lines(book), "b c d e f gah");
        is("a neighbour above", book.join(1, 0), 0);
        is("a neighbour below", book.join(0, 1), 0);
        is("lines", Books.lines(book), "cbd e f gah");
        HymnEndings ten = Books.of("a", "bcdefghij");
        is("one and nine letters", ten.join(0, 1), 0);
        is("lines", Books.lines(ten), TEN);
        is("the only line", ten.account(0), 1);
        is("five and five letters", Books.of("fghij", "abcde").join(1, 0), 0);
    }

    private void joinRefused() {
        promise(7, "Throws UnsupportedOperationException if it is refused for the reason 2, for the one line, then"
                + " for the other, 6 or 7; the reason is kept");
        HymnEndings book = Books.of("abcde", "fghijk");
        refusedFor("2:2", book, () -> book.join(2, -1));
        refusedFor("2:-1", book, () -> book.join(-1, 2));
        refusedFor("2:2", book, () -> book.join(1, 2));
        refusedFor("2:-1", book, () -> book.join(0, -1));
        refusedFor("2:2", book, () -> book.join(2, 2));
        refusedFor("6:1", book, () -> book.join(1, 1));
        refusedFor("7:11 11:6", book, () -> book.join(0, 1));
        refusedFor("7:11 11:5", book, () -> book.join(1, 0));
        is("lines", Books.lines(book), "abcde fghijk");
    }

    private void turn() {
        promise(8, "Turns a line: its last letter comes first, and so on. Returns the rank of the ending at its"
                + " place 0 then.");
        HymnEndings book = Books.of("ab", TEN, "xyz");
        is("two letters", book.turn(0), 2);
        is("ten letters", book.turn(1), 11);
        is("three letters", book.turn(2), 14);
        is("lines", Books.lines(book), "ba jihgfedcba zyx");
        is("back", book.turn(0), 1);
        HymnEndings full = Books.of("a", "b", "c", "d", "e", "f", "g", "za");
        is("the last of eight lines", full.turn(7), 1);
    }

    private void turnRefused() {
        promise(8, "Throws UnsupportedOperationException if it is refused for the reason 2 or 8; the reason is kept");
        HymnEndings book = Books.of("a", "abcdeedcba", "aab");
        refusedFor("2:3", book, () -> book.turn(3));
        refusedFor("2:-1", book, () -> book.turn(-1));
        refusedFor("8:0", book, () -> book.turn(0));
        refusedFor("8:1", book, () -> book.turn(1));
        is("another line", book.turn(2), book.rank(2, 0));
        is("lines", Books.lines(book), "a abcdeedcba baa");
    }

    private void commands() {
        promise(29, "Carries out the commands in the text buffer, one after the other;");
        HymnEndings book = new HymnEndings();
        Books.command(book, "+ab;=01c;t0;+d;x01;j01;-0;+e");
        is("each begins where the one before ended", Books.lines(book), "e");
        Books.command(book, "+f;+g;+h;+i;+j;+k;+l;-0;-0;-0;-0;-0;-0;-0;-0;+q;+r");
        is("eight lines in between", Books.lines(book), "q r");
        Books.command(book, "=00z;=00q;=00z");
        is("the same letter again and again", Books.lines(book), "z r");
        is("order", Books.order(book), "1/0:r 0/0:z");
    }

    private void oneRefusedNoneCarriedOut() {
        promise(29, "if one is refused, none is carried out.");
        for (String text : new String[] {"-9", "-9;t0", "t0;-9", "t0;+q;-0;=00z;x01;j01;-9"}) {
            HymnEndings book = Books.of("abc", "de", "fg");
            refuses(text, REFUSED, () -> Books.command(book, text));
            is("lines after " + text, Books.lines(book), "abc de fg");
            is("order after " + text, Books.order(book), Books.order(Books.of("abc", "de", "fg")));
            is("ranks after " + text, book.rank(0, 0) + 10 * book.rankAgain(0, 0), 0);
            is("changes after " + text, book.account(5), 3);
            book.undo();
            is("lines after undo", Books.lines(book), "abc de");
        }
        HymnEndings full = Books.full();
        refuses("a ninth line", REFUSED, () -> Books.command(full, "-0;-0;+i;+j;+k"));
        is("lines", Books.lines(full), "a b c d e f g h");
    }

    private void commandsEmptyTheBuffer() {
        promise(29, "The buffer is empty afterwards, also if an exception is thrown.");
        HymnEndings book = Books.of("ab");
        Books.command(book, "t0");
        is("after commands", book.account(6), 0);
        refuses("a fault", WRONG, () -> Books.command(book, SIXTY));
        is("after a fault", book.account(6), 0);
        refuses("refused", REFUSED, () -> Books.command(book, "-9"));
        is("after a refusal", book.account(6), 0);
        refuses("no text", WRONG, book::commands);
        is("after no text", book.account(6), 0);
    }

    private void numberOfCommands() {
        promise(29, "Returns the number of commands.");
        HymnEndings book = Books.of("ab");
        for (int commands = 1; commands <= 20; commands++) {
            is(commands + " commands", Books.command(book, "t0" + ";t0".repeat(commands - 1)), commands);
        }
        is("fewer again", Books.command(book, "+abcdefghij"), 1);
    }

    private void commandsWithAFault() {
        promise(29, "Throws IllegalArgumentException if the text has a fault");
        HymnEndings book = Books.of("ab");
        for (String text : new String[] {"", ";", "t0;", "t0;q", "q;t0", "t", "t00", "=00A", "+", SIXTY}) {
            refuses(text, WRONG, () -> Books.command(book, text));
            is("lines after " + text, Books.lines(book), "ab");
            is("changes after " + text, book.account(5), 1);
        }
        is("nothing is refused", Books.reasons(book), "");
    }

    private void commandsRefused() {
        promise(29, "Throws UnsupportedOperationException if it is refused for the reason 10; the reason is kept");
        HymnEndings book = Books.of("ab", TEN);
        refusedFor("10:0 2:2", book, () -> Books.command(book, "-2"));
        refusedFor("10:1 3:2", book, () -> Books.command(book, "t0;=02b"));
        refusedFor("10:2 7:12 11:10", book, () -> Books.command(book, "t0;t1;j01"));
    }

    private void faultPosition() {
        promise(30, "Returns the fault position of the text of the latest call of commands. Returns the fault"
                + " position,");
        HymnEndings book = Books.of("ab");
        faultOf("t0;x0", 5, book);
        book.append('q');
        refuses("a word is no text of commands", REFUSED, () -> Books.add(book, "0"));
        is("it is not asked by add", book.faultPosition(), 5);
        faultOf("q", 0, book);
        faultOf("t0;".repeat(20), 60, book);
        faultOf("t0;".repeat(19) + "t0q", 59, book);
        faultOf("", 0, book);
    }

    private void noFaultPosition() {
        promise(30, "or -1 if that text had no fault or there was no such call.");
        HymnEndings book = Books.of("ab");
        is("no call", book.faultPosition(), -1);
        faultOf("t0;t", 4, book);
        faultOf("t0", -1, book);
        faultOf("t", 1, book);
        refuses("refused", REFUSED, () -> Books.command(book, "t1"));
        is("a text that was refused", book.faultPosition(), -1);
    }

    private void reason() {
        promise(31, "Returns the reason that is kept, one of its causes, or the detail of one. 0 for the reason, 1"
                + " for its cause, 2 for the cause of this Returns the reason or the detail.");
        HymnEndings book = Books.of(TEN, "kl");
        refuses("commands", REFUSED, () -> Books.command(book, "t0;j01"));
        int[][] due = {{10, 1}, {7, 12}, {11, 2}};
        for (int depth = 0; depth <= 2; depth++) {
            is("reason " + depth, book.reason(depth, false), due[depth][0]);
            is("detail " + depth, book.reason(depth, true), due[depth][1]);
        }
    }

    private void reasonTooDeep() {
        promise(31, "Throws IllegalArgumentException if the depth is not from 0 to 2");
        HymnEndings book = Books.of(TEN, "kl");
        for (int round = 0; round < 2; round++) {
            for (int depth : new int[] {-1, 3, 4, MOST, LEAST}) {
                refuses("reason " + depth, WRONG, () -> book.reason(depth, false));
                refuses("detail " + depth, WRONG, () -> book.reason(depth, true));
            }
            refuses("commands", REFUSED, () -> Books.command(book, "t0;j01"));
        }
    }

    private void noReason() {
        promise(31, "Throws NoSuchElementException if nothing was refused, or there is no such cause");
        HymnEndings book = Books.of(TEN, "kl");
        for (int depth = 0; depth <= 2; depth++) {
            int deep = depth;
            refuses("nothing refused", NONE, () -> book.reason(deep, false));
            refuses("nothing refused", NONE, () -> book.reason(deep, true));
        }
        refusedFor("2:7", book, () -> book.cut(7));
        refuses("no cause", NONE, () -> book.reason(1, false));
        refuses("no cause of a cause", NONE, () -> book.reason(2, true));
        refusedFor("7:12 11:2", book, () -> book.join(0, 1));
        refuses("no cause of a cause", NONE, () -> book.reason(2, false));
        refusedFor("10:0 2:7", book, () -> Books.command(book, "-7"));
        refuses("no cause of a cause", NONE, () -> book.reason(2, true));
    }
}
