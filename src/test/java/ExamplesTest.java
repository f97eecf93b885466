/** The five examples of the document. */
public final class ExamplesTest {
    private static final Check CHECK = new Check("ExamplesTest");

    public static void main(String[] args) {
        endings();
        turnedAndJoined();
        found();
        sameTurnedRound();
        fault();
        CHECK.finish();
    }

    private static void typed(HymnEndings book, String text) {
        for (int index = 0; index < text.length(); index++) {
            CHECK.is("append", book.append(text.charAt(index)), index + 1);
        }
    }

    private static void endings() {
        HymnEndings book = new HymnEndings();
        typed(book, "anna");
        CHECK.is("1 add()", book.add(), 0);
        CHECK.is("1 rank(0, 0)", book.rank(0, 0), 1);
        CHECK.is("1 rank(0, 3)", book.rank(0, 3), 0);
        CHECK.is("1 write(1)", book.write(1), 8);
        CHECK.is("1 longest()", book.longest(), 1);
        CHECK.is("1 pieces()", book.pieces(), 8);
    }

    private static void turnedAndJoined() {
        HymnEndings book = new HymnEndings();
        typed(book, "oh");
        CHECK.is("2 add()", book.add(), 0);
        typed(book, "ho");
        CHECK.is("2 add()", book.add(), 1);
        CHECK.is("2 isTurned(0, 1)", book.isTurned(0, 1), true);
        CHECK.is("2 shared(0, 1)", book.shared(0, 1), 1);
        CHECK.is("2 rank(0, 1)", book.rank(0, 1), 0);
        CHECK.is("2 rank(1, 0)", book.rank(1, 0), 1);
        CHECK.is("2 join(0, 1)", book.join(0, 1), 0);
        CHECK.is("2 lineOf(0, 3)", book.lineOf(0, 3), 3);
    }

    private static void found() {
        HymnEndings book = new HymnEndings();
        typed(book, "aaa");
        CHECK.is("3 add()", book.add(), 0);
        typed(book, "aa");
        CHECK.is("3 finds()", book.finds(), 2);
        CHECK.is("3 findsAgain()", book.findsAgain(), 2);
        CHECK.is("3 firstFind()", book.firstFind(), 1);
        CHECK.is("3 lineOf(0, 4)", book.lineOf(0, 4), 2);
    }

    private static void sameTurnedRound() {
        HymnEndings book = new HymnEndings();
        typed(book, "a");
        CHECK.is("4 add()", book.add(), 0);
        CHECK.refuses("4 turn(0)", UnsupportedOperationException.class, () -> book.turn(0));
        CHECK.is("4 reason(0, false)", book.reason(0, false), 8);
        CHECK.is("4 change(0, 0, 'b')", book.change(0, 0, 'b'), 0);
        CHECK.is("4 letter(0, 0)", book.letter(0, 0), 'b');
        CHECK.is("4 alone(0)", book.alone(0), 1);
    }

    private static void fault() {
        HymnEndings book = new HymnEndings();
        typed(book, "tx");
        CHECK.refuses("5 commands()", IllegalArgumentException.class, book::commands);
        CHECK.is("5 faultPosition()", book.faultPosition(), 1);
        CHECK.refuses("5 add()", UnsupportedOperationException.class, book::add);
        CHECK.is("5 reason(0, false)", book.reason(0, false), 9);
    }
}
