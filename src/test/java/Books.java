import java.util.LinkedHashMap;
import java.util.Map;

/** Short ways to make books and to tell what is in them. */
final class Books {
    private Books() {
    }

    static HymnEndings of(String... lines) {
        HymnEndings book = new HymnEndings();
        for (String line : lines) {
            add(book, line);
        }
        return book;
    }

    static void type(HymnEndings book, String text) {
        for (char character : text.toCharArray()) {
            book.append(character);
        }
    }

    static int add(HymnEndings book, String line) {
        type(book, line);
        return book.add();
    }

    static int command(HymnEndings book, String text) {
        type(book, text);
        return book.commands();
    }

    static String lines(HymnEndings book) {
        StringBuilder lines = new StringBuilder();
        int count = book.account(0);
        for (int line = 0; line < count; line++) {
            lines.append(line == 0 ? "" : " ");
            int size = book.lineOf(line, 0);
            for (int place = 0; place < size; place++) {
                lines.append(book.letter(line, place));
            }
        }
        return lines.toString();
    }

    /** Eight lines of one letter, a to h. */
    static HymnEndings full() {
        return of("a", "b", "c", "d", "e", "f", "g", "h");
    }

    /** Eight lines of ten letters, all of them a. */
    static HymnEndings fullest() {
        HymnEndings book = new HymnEndings();
        for (int line = 0; line < 8; line++) {
            add(book, "aaaaaaaaaa");
        }
        return book;
    }

    /** The first so many characters of what was written; the one behind them must be missing. */
    static String written(HymnEndings book, int length) {
        StringBuilder text = new StringBuilder();
        for (int index = 0; index < length; index++) {
            text.append(book.character(index));
        }
        try {
            text.append(book.character(length)).append(" and more");
        } catch (IndexOutOfBoundsException end) {
            return text.toString();
        }
        return text.toString();
    }

    /** The reasons that are kept with their details, as in "10:0 7:11 11:5". */
    static String reasons(HymnEndings book) {
        StringBuilder reasons = new StringBuilder();
        for (int depth = 0; depth < 3; depth++) {
            try {
                int reason = book.reason(depth, false);
                reasons.append(depth == 0 ? "" : " ").append(reason).append(':').append(book.reason(depth, true));
            } catch (java.util.NoSuchElementException end) {
                return reasons.toString();
            }
        }
        return reasons.toString();
    }

    /** All endings in the order of their ranks, as in "0/1:b 0/0:ab". */
    static String order(HymnEndings book) {
        StringBuilder order = new StringBuilder();
        String[] lines = lines(book).split(" ");
        int endings = book.account(1);
        for (int rank = 0; rank < endings; rank++) {
            int line = book.ending(rank, false);
            int place = book.ending(rank, true);
            order.append(rank == 0 ? "" : " ").append(line).append('/').append(place).append(':');
            order.append(lines[line].substring(place));
        }
        return order.toString();
    }

    /** All that was written. */
    static String written(HymnEndings book) {
        StringBuilder text = new StringBuilder();
        try {
            while (true) {
                text.append(book.character(text.length()));
            }
        } catch (IndexOutOfBoundsException end) {
            return text.toString();
        }
    }

    /** What can be asked without a change, by its name. */
    static Map<String, String> state(HymnEndings book) {
        Map<String, String> state = new LinkedHashMap<>();
        state.put("lines", lines(book));
        state.put("order", order(book));
        for (int what = 0; what <= 6; what++) {
            state.put("account " + what, Integer.toString(book.account(what)));
        }
        state.put("pieces", book.longest() + " " + book.pieces() + " " + book.piecesAgain() + " " + book.kinds());
        state.put("fault", Integer.toString(book.faultPosition()));
        state.put("reasons", reasons(book));
        state.put("written", written(book));
        return state;
    }

    /** What the rest of the calls bring to light: the buffer, what can be undone, the snapshot. It uses the book up. */
    static String future(HymnEndings book) {
        StringBuilder future = new StringBuilder("word " + addsWord(book));
        try {
            while (true) {
                book.undo();
                future.append(" undo ").append(lines(book));
            }
        } catch (IllegalStateException end) {
            future.append(" no more");
        }
        try {
            future.append(" saved ").append(book.restore()).append(' ').append(lines(book));
        } catch (IllegalStateException none) {
            future.append(" not saved");
        }
        return future.toString();
    }

    private static String addsWord(HymnEndings book) {
        int changes = book.account(5);
        try {
            book.add();
        } catch (UnsupportedOperationException refused) {
            return "refused for " + reasons(book);
        }
        String lines = lines(book);
        if (changes < 8) {
            book.undo();
        }
        return "makes " + lines;
    }
}
