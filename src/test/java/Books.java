/** Short ways to make books and to tell what is in them. */
final class Books {
    private Books() {
    }

    static HymnEndings of(String... lines) {
        HymnEndings book = new HymnEndings();
        for (String line : lines) {
            add(book, line);
        }
        return book;
    }

    static void type(HymnEndings book, String text) {
        for (char character : text.toCharArray()) {
            book.append(character);
        }
    }

    static int add(HymnEndings book, String line) {
        type(book, line);
        return book.add();
    }

    static int command(HymnEndings book, String text) {
        type(book, text);
        return book.commands();
    }

    static String lines(HymnEndings book) {
        StringBuilder lines = new StringBuilder();
        for (int line = 0; line < book.account(0); line++) {
            lines.append(line == 0 ? "" : " ");
            for (int place = 0; place < book.lineOf(line, 0); place++) {
                lines.append(book.letter(line, place));
            }
        }
        return lines.toString();
    }

    /** The first so many characters of what was written; the one behind them must be missing. */
    static String written(HymnEndings book, int length) {
        StringBuilder text = new StringBuilder();
        for (int index = 0; index < length; index++) {
            text.append(book.character(index));
        }
        try {
            text.append(book.character(length)).append(" and more");
        } catch (IndexOutOfBoundsException end) {
            return text.toString();
        }
        return text.toString();
    }

    /** The reasons that are kept with their details, as in "10:0 7:11 11:5". */
    static String reasons(HymnEndings book) {
        StringBuilder reasons = new StringBuilder();
        for (int depth = 0; depth < 3; depth++) {
            try {
                int reason = book.reason(depth, false);
                reasons.append(depth == 0 ? "" : " ").append(reason).append(':').append(book.reason(depth, true));
            } catch (java.util.NoSuchElementException end) {
                return reasons.toString();
            }
        }
        return reasons.toString();
    }

    /** All endings in the order of their ranks, as in "0/1:b 0/0:ab". */
    static String order(HymnEndings book) {
        StringBuilder order = new StringBuilder();
        for (int rank = 0; rank < book.account(1); rank++) {
            int line = book.ending(rank, false);
            int place = book.ending(rank, true);
            order.append(rank == 0 ? "" : " ").append(line).append('/').append(place).append(':');
            for (int at = place; at < book.lineOf(line, 0); at++) {
                order.append(book.letter(line, at));
            }
        }
        return order.toString();
    }
}
