/** What the first sentence of the document says of the whole, part by part. */
final class FirstSentence extends Sentences {
    FirstSentence(Check check, Document document) {
        super(check, document);
    }

    @Override
    void test() {
        linesThatMove();
        orderAndRanks();
        neighboursAndRepeats();
        differentPieces();
        linesAlike();
        foundWords();
        sharedAndAlone();
        periods();
        commandsWithFaults();
        reasonsWithCauses();
        writtenLine();
        accounts();
        undoAndSnapshot();
    }

    private void linesThatMove() {
        whatItIs("A sorter of the endings of a hymn book: lines of letters that come, go, change, join and are turned,");
        HymnEndings book = Books.of("men", "psalm", "hy");
        book.cut(1);
        is("one went", Books.lines(book), "men hy");
        book.change(0, 0, 'p');
        is("one changed", Books.lines(book), "pen hy");
        book.join(1, 0);
        is("two joined", Books.lines(book), "hypen");
        book.turn(0);
        is("one was turned", Books.lines(book), "nepyh");
        is("its endings are sorted", Books.order(book), "0/1:epyh 0/4:h 0/0:nepyh 0/2:pyh 0/3:yh");
    }

    private void orderAndRanks() {
        whatItIs("all endings of lines in the order of a reader, ranks in two ways,");
        HymnEndings book = Books.of("hymn", "amen");
        is("the order", Books.order(book), "1/0:amen 1/2:en 0/0:hymn 1/1:men 0/2:mn 0/3:n 1/3:n 0/1:ymn");
        is("by the order", book.rank(0, 2), 4);
        is("by counting", book.rankAgain(0, 2), 4);
    }

    private void neighboursAndRepeats() {
        whatItIs("common beginnings of neighbours, longest repeats,");
        HymnEndings book = Books.of("banana");
        is("ana begins as a does", book.common(1), 1);
        is("anana begins as ana does", book.common(2), 3);
        is("the longest repeat", book.longest(), 3);
        is("its ending", book.longestRank(), 1);
        is("it is written", Books.written(book, book.writeLongest()), "ana");
    }

    private void differentPieces() {
        whatItIs("how many different pieces there are in two ways,");
        HymnEndings book = Books.of("aba");
        is("a, b, ab, ba, aba", book.pieces(), 5);
        is("again", book.piecesAgain(), 5);
    }

    private void linesAlike() {
        whatItIs("how many lines are alike,");
        HymnEndings book = Books.of("men", "hymn", "men");
        is("like the first", book.lineOf(0, 2), 2);
        is("like the second", book.lineOf(1, 2), 1);
        is("kinds", book.kinds(), 2);
    }

    private void foundWords() {
        whatItIs("words that are found by halving and letter by letter,");
        HymnEndings book = Books.of("amen", "omen");
        Books.type(book, "men");
        is("by halving", book.finds(), 2);
        is("letter by letter", book.findsAgain(), 2);
        is("the first", book.firstFind(), book.rank(0, 1));
        is("no whole line", book.isLine(), false);
    }

    private void sharedAndAlone() {
        whatItIs("pieces that two lines share, pieces that a line has alone,");
        HymnEndings book = Books.of("amen", "omen");
        is("men", book.shared(0, 1), 3);
        is("a", book.alone(0), 1);
        is("its place", book.alonePlace(0), 0);
    }

    private void periods() {
        whatItIs("periods,");
        is("aba and again", Books.of("abaab").lineOf(0, 3), 3);
    }

    private void commandsWithFaults() {
        whatItIs("commands as texts with faults by place,");
        HymnEndings book = new HymnEndings();
        is("three commands", Books.command(book, "+amen;+hy;j10"), 3);
        is("lines", Books.lines(book), "hyamen");
        faultOf("t0;t", 4, book);
        is("nothing was carried out", Books.lines(book), "hyamen");
    }

    private void reasonsWithCauses() {
        whatItIs("reasons with their causes,");
        HymnEndings book = Books.of("hallelujah", "amen");
        refusedFor("10:1 7:14 11:4", book, () -> Books.command(book, "t0;j01"));
    }

    private void writtenLine() {
        whatItIs("a line,");
        HymnEndings book = Books.of("o", "e", "amen");
        is("its length", book.write(book.rank(2, 1)), 7);
        is("as in the document", Books.written(book), "2/1:men");
    }

    private void accounts() {
        whatItIs("accounts,");
        HymnEndings book = Books.of("ana", "ab");
        Books.type(book, "a;");
        long[] due = {2, 5, 3, 2, 1, 2, 2};
        for (int what = 0; what < due.length; what++) {
            is("account " + what, book.account(what), due[what]);
        }
    }

    private void undoAndSnapshot() {
        whatItIs("undo, and a snapshot.");
        HymnEndings book = Books.of("men", "hymn");
        is("lines are saved", book.save(), 2);
        is("can be undone", book.undo(), 1);
        is("undone", Books.lines(book), "men");
        is("lines are restored", book.restore(), 2);
        is("restored", Books.lines(book), "men hymn");
    }
}
