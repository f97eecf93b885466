import java.lang.management.ManagementFactory;

/** All calls of a run live in one room: calls that answer must make nothing that stays counted. */
public final class RoomTest {
    private static final Check CHECK = new Check("RoomTest");
    private static final long BYTES_FOR_AN_OBJECT = 16_000;
    private static final long BYTES_FOR_ALL_CALLS = 16_000;

    private static com.sun.management.ThreadMXBean thread() {
        return (com.sun.management.ThreadMXBean) ManagementFactory.getThreadMXBean();
    }

    public static void main(String[] args) {
        use(new HymnEndings());
        long start = thread().getCurrentThreadAllocatedBytes();
        HymnEndings book = new HymnEndings();
        long made = thread().getCurrentThreadAllocatedBytes();
        use(book);
        long used = thread().getCurrentThreadAllocatedBytes();
        CHECK.is("a new object is small", made - start < BYTES_FOR_AN_OBJECT, true);
        CHECK.is("its calls make nothing", used - made < BYTES_FOR_ALL_CALLS, true);
        CHECK.finish();
    }

    /** No call of these throws. */
    private static void use(HymnEndings book) {
        for (int line = 0; line < 8; line++) {
            for (int place = 0; place < 10; place++) {
                book.append((char) ('a' + (line + 3 * place) % 5));
            }
            book.add();
        }
        for (int round = 0; round < 20; round++) {
            ask(book, round);
            change(book);
        }
    }

    private static void ask(HymnEndings book, int round) {
        book.lineOf(round % 8, round % 5);
        book.ending(round, true);
        book.rank(round % 8, 9);
        book.rankAgain(round % 8, 9);
        book.common(79 - round);
        book.commonOf(0, 1, 2, 3);
        book.longestRank();
        book.pieces();
        book.piecesAgain();
        book.kinds();
        book.shared(0, 7);
        book.isTurned(0, 1);
        book.write(round);
        book.writeLongest();
        book.character(0);
        book.meanLetters();
        book.repeatShare();
        book.account(round % 7);
    }

    private static void change(HymnEndings book) {
        book.append('a');
        book.finds();
        book.findsAgain();
        book.firstFind();
        book.isLine();
        book.save();
        book.cut(0);
        book.add();
        book.swap(0, 7);
        for (char sign : new char[] {'-', '0', ';', '+', 'e', 'd', ';', 't', '7', ';', 'x', '0', '7'}) {
            book.append(sign);
        }
        book.commands();
        book.undo();
        book.restore();
        book.turn(0);
        book.turn(0);
    }
}
