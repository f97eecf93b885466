/** The terms of reasons: each with its detail, their order, their causes. */
final class ReasonsSentences extends Sentences {
    private static final String TEN = "abcdefghij";

    ReasonsSentences(Check check, Document document) {
        super(check, document);
    }

    @Override
    void test() {
        orderOfAdd();
        orderOfChange();
        orderOfPairs();
        orderOfTurn();
        asManyLines();
        noLine();
        noPlace();
        noLetter();
        letterThere();
        sameLine();
        tooLong();
        sameWhenTurned();
        noWord();
        commandRefused();
        causesOfACommand();
        causeOfTooLong();
        keptWithCauses();
    }

    private void inOrder() {
        terms("Something is refused for the first that applies of the reasons that its method names, in the order"
                + " in which it names them:");
    }

    private void orderOfAdd() {
        inOrder();
        HymnEndings book = Books.full();
        refusedFor("9:0", book, book::add);
        refusedFor("9:11", book, () -> Books.add(book, TEN + "k"));
        refusedFor("9:2", book, () -> Books.add(book, "a;"));
        refusedFor("1:8", book, () -> Books.add(book, "a"));
    }

    private void orderOfChange() {
        inOrder();
        HymnEndings book = Books.of("ab");
        refusedFor("2:1", book, () -> book.change(1, 2, '{'));
        refusedFor("2:-1", book, () -> book.change(-1, 0, 'a'));
        refusedFor("3:2", book, () -> book.change(0, 2, '{'));
        refusedFor("3:-1", book, () -> book.change(0, -1, 'a'));
        refusedFor("4:123", book, () -> book.change(0, 1, '{'));
        refusedFor("5:1", book, () -> book.change(0, 1, 'b'));
    }

    private void orderOfPairs() {
        inOrder();
        HymnEndings book = Books.of("abcdefgh", TEN);
        refusedFor("2:2", book, () -> book.swap(2, 3));
        refusedFor("2:2", book, () -> book.swap(2, 2));
        refusedFor("2:3", book, () -> book.swap(0, 3));
        refusedFor("2:-1", book, () -> book.swap(-1, 0));
        refusedFor("6:1", book, () -> book.swap(1, 1));
        refusedFor("2:3", book, () -> book.join(3, 2));
        refusedFor("2:2", book, () -> book.join(2, 2));
        refusedFor("2:2", book, () -> book.join(1, 2));
        refusedFor("2:2", book, () -> book.join(2, 1));
        refusedFor("6:1", book, () -> book.join(1, 1));
        refusedFor("7:18 11:10", book, () -> book.join(0, 1));
    }

    private void orderOfTurn() {
        inOrder();
        HymnEndings book = Books.of("aba");
        refusedFor("2:1", book, () -> book.turn(1));
        refusedFor("8:0", book, () -> book.turn(0));
    }

    private void asManyLines() {
        terms("1, there are as many lines as there can be: how many;");
        HymnEndings book = Books.full();
        refusedFor("1:8", book, () -> Books.add(book, "i"));
        refusedFor("10:0 1:8", book, () -> Books.command(book, "+i"));
        book.cut(7);
        is("with seven lines", Books.add(book, "i"), 7);
    }

    private void noLine() {
        terms("2, there is no such line: its number;");
        HymnEndings book = Books.of("ab", "cd");
        for (int line : new int[] {-1, 2, 7, 8, MOST, LEAST}) {
            refusedFor("2:" + line, book, () -> book.cut(line));
            refusedFor("2:" + line, book, () -> book.change(line, 0, 'q'));
            refusedFor("2:" + line, book, () -> book.swap(line, 0));
            refusedFor("2:" + line, book, () -> book.swap(0, line));
            refusedFor("2:" + line, book, () -> book.join(line, 0));
            refusedFor("2:" + line, book, () -> book.join(0, line));
            refusedFor("2:" + line, book, () -> book.turn(line));
        }
        HymnEndings full = Books.full();
        refusedFor("2:8", full, () -> full.cut(8));
        HymnEndings empty = new HymnEndings();
        refusedFor("2:0", empty, () -> empty.cut(0));
        refusedFor("2:0", empty, () -> empty.turn(0));
    }

    private void noPlace() {
        terms("3, there is no such place: its number;");
        HymnEndings book = Books.of(TEN, "q");
        for (int place : new int[] {-1, 10, 11, MOST, LEAST}) {
            refusedFor("3:" + place, book, () -> book.change(0, place, 'q'));
        }
        refusedFor("3:1", book, () -> book.change(1, 1, 'a'));
        refusedFor("10:0 3:1", book, () -> Books.command(book, "=11a"));
        is("the last place", book.change(0, 9, 'q'), 9);
        is("the first place", book.change(1, 0, 'a'), 0);
    }

    private void noLetter() {
        terms("4, the letter is no letter from a to z: its code;");
        HymnEndings book = Books.of("bc");
        for (char sign : new char[] {'a' - 1, 'z' + 1, 'A', 'Z', 0, 255, 256 + 'a', '\uffff'}) {
            refusedFor("4:" + (int) sign, book, () -> book.change(0, 0, sign));
        }
        is("a", book.change(0, 0, 'a'), 0);
        is("z", book.change(0, 0, 'z'), 1);
    }

    private void letterThere() {
        terms("5, the letter is there already: its place;");
        HymnEndings book = Books.of(TEN, "q");
        refusedFor("5:0", book, () -> book.change(0, 0, 'a'));
        refusedFor("5:9", book, () -> book.change(0, 9, 'j'));
        refusedFor("5:0", book, () -> book.change(1, 0, 'q'));
        refusedFor("10:0 5:9", book, () -> Books.command(book, "=09j"));
        is("a letter that is there at another place", book.change(0, 0, 'b'), 0);
    }

    private void sameLine() {
        terms("6, it is the same line: the line;");
        HymnEndings book = Books.full();
        for (int line : new int[] {0, 7}) {
            refusedFor("6:" + line, book, () -> book.swap(line, line));
            refusedFor("6:" + line, book, () -> book.join(line, line));
            refusedFor("10:0 6:" + line, book, () -> Books.command(book, "x" + line + line));
            refusedFor("10:0 6:" + line, book, () -> Books.command(book, "j" + line + line));
        }
        is("the same letters are not the same line", Books.of("a", "a").swap(0, 1), 1);
    }

    private void tooLong() {
        terms("7, the line would be too long: how many letters it would have;");
        HymnEndings book = Books.of(TEN, "k", TEN, "fghij");
        refusedFor("7:11 11:1", book, () -> book.join(0, 1));
        refusedFor("7:11 11:10", book, () -> book.join(1, 0));
        refusedFor("7:20 11:10", book, () -> book.join(0, 2));
        refusedFor("10:0 7:15 11:5", book, () -> Books.command(book, "j03"));
        is("ten letters", Books.of("abcde", "fghij").join(0, 1), 0);
        is("ten letters by a command", Books.command(Books.of("abcdefghi", "j"), "j01"), 1);
    }

    private void sameWhenTurned() {
        terms("8, the line is the same when it is turned: the line;");
        HymnEndings book = Books.of("a", "bb", "aba", "abba", "abcdeedcba", "abcdefdcba", "x", "zz");
        for (int line : new int[] {0, 1, 2, 3, 4, 6, 7}) {
            refusedFor("8:" + line, book, () -> book.turn(line));
            refusedFor("10:0 8:" + line, book, () -> Books.command(book, "t" + line));
        }
        is("all but the middle", book.turn(5), book.rank(5, 0));
        is("turned", Books.lines(book), "a bb aba abba abcdeedcba abcdfedcba x zz");
    }

    private void noWord() {
        terms("9, the buffer holds no word: how many characters it holds;");
        HymnEndings book = new HymnEndings();
        refusedFor("9:0", book, book::add);
        refusedFor("9:1", book, () -> Books.add(book, "A"));
        refusedFor("9:10", book, () -> Books.add(book, "abcdefghi{"));
        refusedFor("9:10", book, () -> Books.add(book, "`bcdefghij"));
        refusedFor("9:11", book, () -> Books.add(book, TEN + "k"));
        refusedFor("9:60", book, () -> Books.add(book, TEN.repeat(6)));
        is("a word of ten letters", Books.add(book, TEN), 0);
    }

    private void commandRefused() {
        terms("10, a command is refused: the index of the command, from 0.");
        HymnEndings book = Books.of("ab");
        refusedFor("10:0 2:1", book, () -> Books.command(book, "-1"));
        refusedFor("10:0 2:1", book, () -> Books.command(book, "-1;-2;-3"));
        refusedFor("10:1 2:1", book, () -> Books.command(book, "t0;-1"));
        refusedFor("10:19 2:9", book, () -> Books.command(book, "t0;".repeat(18) + "+a;-9"));
    }

    private void causesOfACommand() {
        terms("The reason 10 has a cause, which is the reason for which the command is refused;");
        String[][] refusals = {{"+a;+b;+c;+d;+e;+f;+g", "10:6 1:8"}, {"-2", "10:0 2:2"}, {"-0;-1", "10:1 2:1"},
            {"=20a", "10:0 2:2"}, {"=02a", "10:0 3:2"}, {"=09a", "10:0 3:9"}, {"=01b", "10:0 5:1"},
            {"x29", "10:0 2:2"}, {"x09", "10:0 2:9"}, {"x00", "10:0 6:0"}, {"j92", "10:0 2:9"}, {"j02", "10:0 2:2"},
            {"j11", "10:0 6:1"}, {"+abcdefghi;j20", "10:1 7:11 11:2"}, {"t2", "10:0 2:2"}, {"+aa;t2", "10:1 8:2"}};
        for (String[] refusal : refusals) {
            HymnEndings book = Books.of("ab", "cd");
            refusedFor(refusal[1], book, () -> Books.command(book, refusal[0]));
            is("lines after " + refusal[0], Books.lines(book), "ab cd");
        }
    }

    private void causeOfTooLong() {
        terms("and the reason 7 has one, which is the reason 11: the line that would be cut has letters, with how"
                + " many as its detail.");
        for (int letters = 1; letters <= 10; letters++) {
            HymnEndings book = Books.of(TEN, TEN.substring(0, letters));
            refusedFor("7:" + (10 + letters) + " 11:" + letters, book, () -> book.join(0, 1));
            refusedFor("7:" + (10 + letters) + " 11:10", book, () -> book.join(1, 0));
            refuses("no third", NONE, () -> book.reason(2, false));
        }
    }

    private void keptWithCauses() {
        terms("The reason is kept with its causes.");
        HymnEndings book = Books.of(TEN, "k");
        refusedFor("10:1 7:11 11:1", book, () -> Books.command(book, "t0;j01"));
        Books.command(book, "t0;x01;x01");
        book.undo();
        is("after a change", Books.reasons(book), "10:1 7:11 11:1");
        refusedFor("7:11 11:10", book, () -> book.join(1, 0));
        refusedFor("10:0 2:2", book, () -> Books.command(book, "-2"));
        refusedFor("9:0", book, book::add);
        refusedFor("10:0 7:11 11:10", book, () -> Books.command(book, "j10"));
    }
}
