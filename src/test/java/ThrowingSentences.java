import java.util.Map;
import java.util.function.Consumer;

/** The terms of exceptions: what a call that throws leaves as it was. */
final class ThrowingSentences extends Sentences {
    private static final String TEN = "abcdefghij";
    private static final String SIXTY = "0123456789".repeat(6);

    ThrowingSentences(Check check, Document document) {
        super(check, document);
    }

    @Override
    void test() {
        questionsOfLines();
        questionsOfRanks();
        questionsOfWords();
        questionsOfAnEmptyBook();
        refusedChanges();
        refusedJoins();
        refusedWords();
        textsWithAFault();
        refusedTexts();
        firstCondition();
    }

    /** Eight endings; a reason, a fault, a snapshot, a change behind it, and a written line. */
    private static HymnEndings book(String buffer) {
        HymnEndings book = Books.of("abc", "ba", "aba");
        try {
            Books.command(book, "-0;t1;t1");
        } catch (UnsupportedOperationException refused) {
            book.write(0);
        }
        try {
            Books.command(book, "+");
        } catch (IllegalArgumentException fault) {
            book.save();
        }
        book.change(0, 0, 'b');
        book.write(0);
        Books.type(book, buffer);
        return book;
    }

    /** The call must throw, and leave the book as the other one is, but for what differs. */
    private void leaves(String name, Class<? extends RuntimeException> due, HymnEndings book,
            Consumer<HymnEndings> call, HymnEndings other, Map<String, String> differs) {
        refuses(name, due, () -> call.accept(book));
        Map<String, String> state = Books.state(other);
        state.putAll(differs);
        is("state after " + name, Books.state(book).toString(), state.toString());
        is("what comes to light after " + name, Books.future(book), Books.future(other));
    }

    private void leavesAll(String name, Class<? extends RuntimeException> due, Consumer<HymnEndings> call) {
        leavesAll(name, due, "ba", call);
    }

    private void leavesAll(String name, Class<? extends RuntimeException> due, String buffer,
            Consumer<HymnEndings> call) {
        leaves(name, due, book(buffer), call, book(buffer), Map.of());
    }

    private void leavesAllButTheReason(String name, String reasons, Consumer<HymnEndings> call) {
        leaves(name, REFUSED, book("ba"), call, book("ba"), Map.of("reasons", reasons));
    }

    private void leavesUnchanged() {
        terms("A call that throws an exception leaves the state unchanged, unless stated otherwise.");
    }

    private void questionsOfLines() {
        leavesUnchanged();
        for (int line : new int[] {-1, 3, MOST, LEAST}) {
            leavesAll("lineOf(" + line + ", 0)", NO_INDEX, book -> book.lineOf(line, 0));
            leavesAll("letter(" + line + ", 0)", NO_INDEX, book -> book.letter(line, 0));
            leavesAll("letter(0, " + line + ")", NO_INDEX, book -> book.letter(0, line));
            leavesAll("rank(" + line + ", 0)", NO_INDEX, book -> book.rank(line, 0));
            leavesAll("rank(0, " + line + ")", NO_INDEX, book -> book.rank(0, line));
            leavesAll("rankAgain(" + line + ", 0)", NO_INDEX, book -> book.rankAgain(line, 0));
            leavesAll("rankAgain(0, " + line + ")", NO_INDEX, book -> book.rankAgain(0, line));
            leavesAll("commonOf(" + line + ", 0, 0, 0)", NO_INDEX, book -> book.commonOf(line, 0, 0, 0));
            leavesAll("commonOf(0, 0, 0, " + line + ")", NO_INDEX, book -> book.commonOf(0, 0, 0, line));
            leavesAll("shared(" + line + ", 0)", NO_INDEX, book -> book.shared(line, 0));
            leavesAll("shared(0, " + line + ")", NO_INDEX, book -> book.shared(0, line));
            leavesAll("alone(" + line + ")", NO_INDEX, book -> book.alone(line));
            leavesAll("alonePlace(" + line + ")", NO_INDEX, book -> book.alonePlace(line));
            leavesAll("isTurned(0, " + line + ")", NO_INDEX, book -> book.isTurned(0, line));
            leavesAll("reason(" + line + ", true)", WRONG, book -> book.reason(line, true));
        }
        leavesAll("alone(1)", NONE, book -> book.alone(1));
        leavesAll("alonePlace(1)", NONE, book -> book.alonePlace(1));
    }

    private void questionsOfRanks() {
        leavesUnchanged();
        for (int rank : new int[] {-1, 8, MOST, LEAST}) {
            leavesAll("ending(" + rank + ", true)", NONE, book -> book.ending(rank, true));
            leavesAll("common(" + rank + ")", NONE, book -> book.common(rank));
            leavesAll("write(" + rank + ")", NONE, book -> book.write(rank));
            leavesAll("character(" + rank + ")", NO_INDEX, book -> book.character(rank));
            leavesAll("lineOf(0, " + rank + ")", WRONG, book -> book.lineOf(0, rank));
            leavesAll("account(" + rank + ")", WRONG, book -> book.account(rank));
        }
        leavesAll("reason(2, false)", NONE, book -> book.reason(2, false));
        leavesAll("character(5)", NO_INDEX, book -> book.character(5));
        leavesAll("common(0)", NONE, book -> book.common(0));
    }

    private void questionsOfWords() {
        leavesUnchanged();
        for (String buffer : new String[] {"", "b1", TEN + "k", SIXTY}) {
            leavesAll("finds of " + buffer, WRONG, buffer, HymnEndings::finds);
            leavesAll("findsAgain of " + buffer, WRONG, buffer, HymnEndings::findsAgain);
            leavesAll("firstFind of " + buffer, WRONG, buffer, HymnEndings::firstFind);
            leavesAll("isLine of " + buffer, WRONG, buffer, HymnEndings::isLine);
        }
        leavesAll("firstFind of bac", NONE, "bac", HymnEndings::firstFind);
        leavesAll("append", NO_STATE, SIXTY, book -> book.append('a'));
    }

    private void questionsOfAnEmptyBook() {
        leavesUnchanged();
        emptyBookStays("longestRank", NONE, HymnEndings::longestRank);
        emptyBookStays("writeLongest", NONE, HymnEndings::writeLongest);
        emptyBookStays("meanLetters", NO_NUMBER, HymnEndings::meanLetters);
        emptyBookStays("repeatShare", NO_NUMBER, HymnEndings::repeatShare);
        emptyBookStays("undo", NO_STATE, HymnEndings::undo);
        emptyBookStays("restore", NO_STATE, HymnEndings::restore);
        emptyBookStays("reason(0, false)", NONE, book -> book.reason(0, false));
        emptyBookStays("write(0)", NONE, book -> book.write(0));
    }

    private void emptyBookStays(String name, Class<? extends RuntimeException> due, Consumer<HymnEndings> call) {
        leaves(name, due, new HymnEndings(), call, new HymnEndings(), Map.of());
        HymnEndings book = new HymnEndings();
        refuses(name, due, () -> call.accept(book));
        is("a line that comes after " + name, Books.add(book, "aa"), 0);
        is("what comes to light then", Books.future(book), Books.future(Books.of("aa")));
    }

    private void refusedChanges() {
        leavesUnchanged();
        for (int line : new int[] {-1, 3, MOST, LEAST}) {
            leavesAllButTheReason("cut(" + line + ")", "2:" + line, book -> book.cut(line));
            leavesAllButTheReason("change(" + line + ", 0, q)", "2:" + line, book -> book.change(line, 0, 'q'));
            leavesAllButTheReason("change(0, " + line + ", q)", "3:" + line, book -> book.change(0, line, 'q'));
            leavesAllButTheReason("swap(" + line + ", 0)", "2:" + line, book -> book.swap(line, 0));
            leavesAllButTheReason("swap(0, " + line + ")", "2:" + line, book -> book.swap(0, line));
            leavesAllButTheReason("join(" + line + ", 0)", "2:" + line, book -> book.join(line, 0));
            leavesAllButTheReason("join(0, " + line + ")", "2:" + line, book -> book.join(0, line));
            leavesAllButTheReason("turn(" + line + ")", "2:" + line, book -> book.turn(line));
        }
        leavesAllButTheReason("change(0, 0, {)", "4:123", book -> book.change(0, 0, '{'));
        leavesAllButTheReason("change(0, 0, `)", "4:96", book -> book.change(0, 0, '`'));
        leavesAllButTheReason("change(0, 0, b)", "5:0", book -> book.change(0, 0, 'b'));
        leavesAllButTheReason("swap(1, 1)", "6:1", book -> book.swap(1, 1));
        leavesAllButTheReason("join(1, 1)", "6:1", book -> book.join(1, 1));
        leavesAllButTheReason("turn(2)", "8:2", book -> book.turn(2));
    }

    private void refusedJoins() {
        leavesUnchanged();
        leaves("join(0, 1)", REFUSED, Books.of(TEN, "k"), book -> book.join(0, 1), Books.of(TEN, "k"),
                Map.of("reasons", "7:11 11:1"));
        leaves("join(1, 0)", REFUSED, Books.of(TEN, "k"), book -> book.join(1, 0), Books.of(TEN, "k"),
                Map.of("reasons", "7:11 11:10"));
    }

    /** The buffer is empty afterwards, as that of a book in which nothing was typed. */
    private void leavesAllButTheText(String text, Class<? extends RuntimeException> due, Consumer<HymnEndings> call,
            Map<String, String> differs) {
        leaves(text, due, book(text), call, book(""), differs);
    }

    private void refusedWords() {
        leavesUnchanged();
        leavesAllButTheText("", REFUSED, HymnEndings::add, Map.of("reasons", "9:0"));
        leavesAllButTheText("b1", REFUSED, HymnEndings::add, Map.of("reasons", "9:2"));
        leavesAllButTheText(TEN + "k", REFUSED, HymnEndings::add, Map.of("reasons", "9:11"));
        leavesAllButTheText(SIXTY, REFUSED, HymnEndings::add, Map.of("reasons", "9:60"));
        HymnEndings full = Books.full();
        full.append('i');
        leaves("a ninth line", REFUSED, full, HymnEndings::add, Books.full(), Map.of("reasons", "1:8"));
    }

    private void textsWithAFault() {
        leavesUnchanged();
        leavesAllButTheText("", WRONG, HymnEndings::commands, Map.of("fault", "0"));
        leavesAllButTheText("-0;+q;t0;", WRONG, HymnEndings::commands, Map.of("fault", "9"));
        leavesAllButTheText("-9;x", WRONG, HymnEndings::commands, Map.of("fault", "4"));
        leavesAllButTheText(SIXTY, WRONG, HymnEndings::commands, Map.of("fault", "0"));
    }

    private void refusedTexts() {
        leavesUnchanged();
        leavesAllButTheText("-9", REFUSED, HymnEndings::commands, Map.of("fault", "-1", "reasons", "10:0 2:9"));
        leavesAllButTheText("+q;-0;=00c;x01;j01;t1", REFUSED, HymnEndings::commands,
                Map.of("fault", "-1", "reasons", "10:5 8:1"));
        leavesAllButTheText("+abcdefghi;j31", REFUSED, HymnEndings::commands,
                Map.of("fault", "-1", "reasons", "10:1 7:11 11:2"));
    }

    private void firstCondition() {
        terms("If several conditions of a method are fulfilled, the one that is listed first determines the"
                + " exception.");
        HymnEndings book = Books.of("ab", "ab");
        refuses("lineOf: no line, no what", NO_INDEX, () -> book.lineOf(2, 5));
        refuses("lineOf: no line, no what", NO_INDEX, () -> book.lineOf(-1, -1));
        refuses("alone: no line", NO_INDEX, () -> book.alone(2));
        refuses("alonePlace: no line", NO_INDEX, () -> book.alonePlace(2));
        refuses("firstFind: no word, no line has it", WRONG, book::firstFind);
        refuses("reason: no depth, nothing refused", WRONG, () -> book.reason(3, false));
        refuses("reason: no depth, nothing refused", WRONG, () -> book.reason(-1, true));
        refuses("commands: a fault, a command that would be refused", WRONG, () -> Books.command(book, "-9;"));
        is("nothing was refused", Books.reasons(book), "");
    }
}
