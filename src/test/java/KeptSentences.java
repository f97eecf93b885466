import java.util.LinkedHashMap;
import java.util.Map;
import java.util.function.Consumer;

/** How long an object is used, the terms of changes, and the promises of undo, save and restore. */
final class KeptSentences extends Sentences {
    private static final String TEN = "abcdefghij";

    KeptSentences(Check check, Document document) {
        super(check, document);
    }

    @Override
    void test() {
        callsOfAnObject();
        whatCanBeUndone();
        whatCannotBeUndone();
        latestEight();
        roundAndRound();
        undoneAndChanged();
        restoreForgets();
        bufferStays();
        faultStays();
        reasonStays();
        writtenStays();
        undo();
        undoOfNothing();
        save();
        saveInPlace();
        restore();
        snapshotIsKept();
        restoreOfNothing();
    }

    private void callsOfAnObject() {
        whatItIs("An object is used for at most 512 calls after it has been made; what later calls answer is free.");
        HymnEndings changes = changed(501);
        for (int undo = 1; undo <= 8; undo++) {
            changes.undo();
        }
        refuses("call 511", NO_STATE, changes::undo);
        is("call 512", changes.letter(0, 0), 'a' + 492 % 26);
        HymnEndings questions = Books.of("aaaaaaaaaa", "aaaaaaaaab");
        for (int call = 23; call <= 512; call++) {
            is("call " + call, questions.rankAgain(1, 0), 10);
        }
        HymnEndings refusals = new HymnEndings();
        for (int call = 1; call <= 510; call += 2) {
            refuses("call " + call, REFUSED, refusals::add);
            is("call " + (call + 1), refusals.reason(0, false), 9);
        }
        is("call 511", refusals.append('q'), 1);
        is("call 512", refusals.add(), 0);
    }

    private static Map<String, Consumer<HymnEndings>> changes() {
        Map<String, Consumer<HymnEndings>> changes = new LinkedHashMap<>();
        changes.put("add", book -> Books.add(book, "xy"));
        changes.put("cut", book -> book.cut(0));
        changes.put("change", book -> book.change(0, 0, 'z'));
        changes.put("swap", book -> book.swap(0, 1));
        changes.put("swap of lines with the same letters", book -> book.swap(1, 2));
        changes.put("join", book -> book.join(0, 1));
        changes.put("turn", book -> book.turn(0));
        changes.put("commands", book -> Books.command(book, "+xy;-0;=00z;x01;j01;t0"));
        changes.put("commands that change nothing in all", book -> Books.command(book, "t0;t0"));
        return changes;
    }

    private void whatCanBeUndone() {
        terms("What can be undone are the successful calls of add, cut, change, swap, join, turn and commands.");
        changes().forEach((name, change) -> {
            HymnEndings book = Books.of("abc", "de", "de");
            change.accept(book);
            is("changes after " + name, book.account(5), 4);
            is("undo of " + name, book.undo(), 3);
            is("all after undo of " + name, Books.state(book).toString(),
                    Books.state(Books.of("abc", "de", "de")).toString());
        });
    }

    private void whatCannotBeUndone() {
        terms("the successful calls of add, cut, change, swap, join, turn and commands.");
        HymnEndings book = Books.of("aba", TEN);
        refuses("add", REFUSED, book::add);
        refuses("cut", REFUSED, () -> book.cut(2));
        refuses("change", REFUSED, () -> book.change(0, 0, 'a'));
        refuses("swap", REFUSED, () -> book.swap(0, 0));
        refuses("join", REFUSED, () -> book.join(0, 1));
        refuses("turn", REFUSED, () -> book.turn(0));
        refuses("commands", REFUSED, () -> Books.command(book, "-0;-1"));
        refuses("commands with a fault", WRONG, () -> Books.command(book, "-0;"));
        book.append('a');
        book.write(0);
        book.writeLongest();
        book.save();
        is("changes", book.account(5), 2);
        book.undo();
        is("lines", Books.lines(book), "aba");
    }

    /** A book of one letter that was changed so many times: add, to b, to c, and so on. */
    private static HymnEndings changed(int times) {
        HymnEndings book = Books.of("a");
        for (int change = 1; change < times; change++) {
            book.change(0, 0, (char) ('a' + change % 26));
        }
        return book;
    }

    private void latestEight() {
        terms("What there was before each of the latest 8 is kept;");
        HymnEndings eight = changed(8);
        is("of eight changes", eight.account(5), 8);
        for (int undo = 1; undo <= 8; undo++) {
            is("of eight changes, undo " + undo, eight.undo(), 8 - undo);
        }
        is("what there was before the first of eight", eight.account(0), 0);
        HymnEndings nine = changed(9);
        is("of nine changes", nine.account(5), 8);
        for (int undo = 1; undo <= 8; undo++) {
            is("of nine changes, undo " + undo, nine.undo(), 8 - undo);
            is("of nine changes, after undo " + undo, nine.letter(0, 0), 'i' - undo);
        }
        refuses("the first of nine", NO_STATE, nine::undo);
        is("what there was after the first of nine", Books.lines(nine), "a");
    }

    private void roundAndRound() {
        terms("each of the latest 8 is kept;");
        for (int times : new int[] {10, 15, 16, 17, 18, 23, 24, 25, 33, 100, 450}) {
            HymnEndings book = changed(times);
            is(times + " changes", book.account(5), 8);
            for (int undo = 1; undo <= 8; undo++) {
                is(times + " changes, undo " + undo, book.undo(), 8 - undo);
                is(times + " changes, after undo " + undo, book.letter(0, 0), 'a' + (times - 1 - undo) % 26);
            }
            refuses(times + " changes, a ninth undo", NO_STATE, book::undo);
        }
    }

    private void undoneAndChanged() {
        terms("What there was before each of the latest 8");
        for (int undone = 1; undone <= 8; undone++) {
            HymnEndings book = changed(13);
            for (int undo = 0; undo < undone; undo++) {
                book.undo();
            }
            for (int change = 0; change < 5; change++) {
                book.change(0, 0, (char) ('v' + change));
            }
            int kept = Math.min(8, 8 - undone + 5);
            is("kept after " + undone + " undone", book.account(5), kept);
            for (int undo = 1; undo <= kept; undo++) {
                is("left after " + undone + " undone", book.undo(), kept - undo);
                is("letter after " + undone + " undone", book.letter(0, 0),
                        undo < 5 ? 'z' - undo : 'm' - undone - (undo - 5));
            }
            refuses("no more after " + undone + " undone", NO_STATE, book::undo);
        }
    }

    private void restoreForgets() {
        terms("restore forgets it.");
        HymnEndings book = changed(12);
        book.save();
        book.change(0, 0, 'z');
        book.restore();
        is("changes", book.account(5), 0);
        refuses("undo", NO_STATE, book::undo);
        is("letter", book.letter(0, 0), 'l');
        for (int change = 0; change < 9; change++) {
            book.change(0, 0, (char) ('a' + change));
            is("changes after it", book.account(5), Math.min(8, change + 1));
        }
        for (int undo = 1; undo <= 8; undo++) {
            book.undo();
            is("letter after it, undo " + undo, book.letter(0, 0), 'i' - undo);
        }
        refuses("the first after it", NO_STATE, book::undo);
    }

    private void bufferStays() {
        terms("The text buffer,");
        HymnEndings book = Books.of("ab");
        book.save();
        Books.type(book, "cd");
        book.turn(0);
        book.undo();
        is("undo", book.account(6), 2);
        book.turn(0);
        book.restore();
        is("restore", book.account(6), 2);
        book.save();
        is("save", book.account(6), 2);
        is("its characters", Books.add(book, "e"), 1);
        is("lines", Books.lines(book), "ab cde");
        book.undo();
        is("what add took is not given back", book.account(6), 0);
        Books.type(book, "0123456789".repeat(6));
        book.restore();
        is("a full buffer", book.account(6), 60);
        refuses("a full buffer", NO_STATE, () -> book.append('a'));
    }

    private void faultStays() {
        terms("the fault position,");
        HymnEndings book = Books.of("ab");
        book.save();
        faultOf("t0;=", 4, book);
        book.turn(0);
        book.undo();
        is("undo", book.faultPosition(), 4);
        book.restore();
        is("restore", book.faultPosition(), 4);
        Books.command(book, "t0");
        book.undo();
        is("undo of commands", book.faultPosition(), -1);
    }

    private void reasonStays() {
        terms("the fault position, the reason and");
        HymnEndings book = Books.of("ab");
        book.save();
        refusedFor("2:7", book, () -> book.cut(7));
        book.turn(0);
        is("a change", Books.reasons(book), "2:7");
        book.undo();
        is("undo", Books.reasons(book), "2:7");
        book.restore();
        is("restore", Books.reasons(book), "2:7");
        Books.command(book, "t0");
        is("commands", Books.reasons(book), "2:7");
        faultOf("q", 0, book);
        is("a fault", Books.reasons(book), "2:7");
    }

    private void writtenStays() {
        terms("and the line that was written do not belong to it, and stay.");
        HymnEndings book = Books.of("ab", "cab");
        book.save();
        book.write(book.rank(0, 0));
        book.cut(0);
        is("a change", Books.written(book), "0/0:ab");
        book.undo();
        is("undo", Books.written(book), "0/0:ab");
        book.restore();
        is("restore", Books.written(book), "0/0:ab");
        book.writeLongest();
        book.turn(0);
        book.undo();
        is("undo", Books.written(book), "ab");
    }

    private void undo() {
        promise(38, "Undoes the latest call that can be undone. Returns the number of calls that can still be undone.");
        HymnEndings book = new HymnEndings();
        for (int line = 0; line < 8; line++) {
            Books.add(book, "ab");
        }
        Books.command(book, "-0;-0;-0");
        is("changes", book.account(5), 8);
        is("commands are one call", book.undo(), 7);
        is("all lines are there again", book.account(0), 8);
        is("all endings, too", book.account(1), 16);
        for (int left = 6; left >= 0; left--) {
            is("still", book.undo(), left);
            is("told by the account, too", book.account(5), left);
        }
        is("lines", Books.lines(book), "ab");
        HymnEndings one = Books.of("q");
        is("the only one", one.undo(), 0);
        is("no lines", one.account(0) + one.account(1) + one.pieces(), 0);
    }

    private void undoOfNothing() {
        promise(38, "Throws IllegalStateException if there is none");
        refuses("a new object", NO_STATE, () -> new HymnEndings().undo());
        HymnEndings book = Books.of("a", "b");
        book.undo();
        book.undo();
        refuses("all is undone", NO_STATE, book::undo);
        refuses("a refused call", REFUSED, () -> book.cut(0));
        refuses("a refused call is none", NO_STATE, book::undo);
        book.append('a');
        book.save();
        refuses("neither append nor save is one", NO_STATE, book::undo);
        book.add();
        book.restore();
        refuses("after restore", NO_STATE, book::undo);
    }

    private void save() {
        promise(39, "Saves all that can be undone");
        HymnEndings book = Books.of(TEN, "b", "c", "d", "e", "f", "g", "zyxwvutsrq");
        String lines = Books.lines(book);
        String order = Books.order(book);
        is("it changes nothing", book.save(), 8);
        is("lines", Books.lines(book), lines);
        is("changes", book.account(5), 8);
        Books.command(book, "-0;t6;=00q;x01");
        book.restore();
        is("lines", Books.lines(book), lines);
        is("order", Books.order(book), order);
    }

    private void saveInPlace() {
        promise(39, ", in place of an earlier snapshot. Returns the number of lines.");
        HymnEndings book = new HymnEndings();
        is("no lines", book.save(), 0);
        Books.command(book, "+ab;+cd;+ef");
        is("three lines", book.save(), 3);
        book.cut(1);
        is("two lines", book.save(), 2);
        book.undo();
        book.cut(0);
        book.restore();
        is("the latest one", Books.lines(book), "ab ef");
    }

    private void restore() {
        promise(40, "Restores what was saved;");
        HymnEndings empty = new HymnEndings();
        empty.save();
        Books.command(empty, "+ab;+cd");
        is("no lines", empty.restore(), 0);
        is("none of the numbers", Books.state(empty).toString(), Books.state(new HymnEndings()).toString());
        HymnEndings full = Books.full();
        full.save();
        Books.command(full, "-0;-0;-0;-0;-0;-0;-0;-0");
        is("eight lines", full.restore(), 8);
        is("lines", Books.lines(full), "a b c d e f g h");
        refuses("a ninth line", REFUSED, () -> Books.add(full, "i"));
    }

    private void snapshotIsKept() {
        promise(40, "the snapshot is kept. Returns the number of lines.");
        HymnEndings book = Books.of("ab");
        book.save();
        for (int round = 0; round < 3; round++) {
            is("round " + round, book.restore(), 1);
            is("lines of round " + round, Books.lines(book), "ab");
            Books.command(book, "=00q;t0;+cd;x01");
            book.undo();
            book.change(0, 1, 'z');
        }
        is("once more", book.restore(), 1);
        is("at once again", book.restore(), 1);
        is("lines", Books.lines(book), "ab");
    }

    private void restoreOfNothing() {
        promise(40, "Throws IllegalStateException if there is no snapshot");
        refuses("a new object", NO_STATE, () -> new HymnEndings().restore());
        HymnEndings book = Books.of("ab");
        refuses("with changes", NO_STATE, book::restore);
        is("they stay", book.account(5), 1);
        book.undo();
        refuses("without lines", NO_STATE, book::restore);
        book.save();
        is("with a snapshot of no lines", book.restore(), 0);
    }
}
