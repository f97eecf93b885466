import java.util.NoSuchElementException;

/** A sorter of the endings of a hymn book. The numbered promises of DOC.md say what each call does. */
public final class HymnEndings {
    private static final int MOST_LINES = 8;
    private static final int MOST_LETTERS = 10;
    private static final int MOST_ENDINGS = 80;
    private static final int MOST_CHARACTERS = 60;
    private static final int MOST_CHANGES = 8;
    private static final int MOST_REASONS = 3;
    private static final int MOST_HALVINGS = 100;

    /** Less than every letter, so that an ending without more letters comes first. */
    private static final char NO_LETTER = 0;
    private static final int NO_FAULT = -1;

    private static final int ALL_LINES_THERE = 1;
    private static final int NO_SUCH_LINE = 2;
    private static final int NO_SUCH_PLACE = 3;
    private static final int NOT_A_LETTER = 4;
    private static final int LETTER_THERE = 5;
    private static final int SAME_LINE = 6;
    private static final int LINE_TOO_LONG = 7;
    private static final int SAME_WHEN_TURNED = 8;
    private static final int NO_WORD = 9;
    private static final int COMMAND_REFUSED = 10;
    private static final int CUT_LINE_HAS_LETTERS = 11;

    private final Book book;
    private final Book before;
    private final Book snapshot;
    private final Text text;
    private final CommandReader reader;
    private final Refusal refusal;
    private final History history;
    private final EndingOrder order;
    private final Text written;
    private int fault;
    private boolean isSaved;

    public HymnEndings() {
        book = new Book();
        before = new Book();
        snapshot = new Book();
        text = new Text();
        reader = new CommandReader();
        refusal = new Refusal();
        history = new History();
        order = new EndingOrder();
        written = new Text();
        fault = NO_FAULT;
        isSaved = false;
    }

    public int append(char character) throws IllegalStateException {
        if (text.isFull()) {
            throw new IllegalStateException("the text buffer is full");
        }
        text.put(character);
        return text.length();
    }

    public int add() throws UnsupportedOperationException {
        before.copyFrom(book);
        boolean isDone = Changes.addText(book, refusal, text);
        text.clear();
        finishChange(isDone);
        return book.lines() - 1;
    }

    public int cut(int line) throws UnsupportedOperationException {
        before.copyFrom(book);
        finishChange(Changes.cutLine(book, refusal, line));
        return book.lines();
    }

    public int change(int line, int place, char letter) throws UnsupportedOperationException {
        before.copyFrom(book);
        finishChange(Changes.changeLetter(book, refusal, line, place, letter));
        return order.rankOf(line, place);
    }

    public int swap(int line, int other) throws UnsupportedOperationException {
        before.copyFrom(book);
        finishChange(Changes.swapLines(book, refusal, line, other));
        return Math.max(book.size(line), book.size(other));
    }

    public int join(int line, int other) throws UnsupportedOperationException {
        before.copyFrom(book);
        finishChange(Changes.joinLines(book, refusal, line, other));
        return other < line ? line - 1 : line;
    }

    public int turn(int line) throws UnsupportedOperationException {
        before.copyFrom(book);
        finishChange(Changes.turnLine(book, refusal, line));
        return order.rankOf(line, 0);
    }

    public int lineOf(int line, int what) throws IndexOutOfBoundsException, IllegalArgumentException {
        checkLine(line);
        switch (what) {
            case 0:
                return book.size(line);
            case 1:
                return Integer.bitCount(book.letterSet(line));
            case 2:
                return book.countSameLines(line);
            case 3:
                return book.period(line);
            case 4:
                return Pieces.longestRepeat(book, line);
            default:
                throw new IllegalArgumentException("a line has no such number");
        }
    }

    public char letter(int line, int place) throws IndexOutOfBoundsException {
        checkPlace(line, place);
        return book.letterAt(line, place);
    }

    public int ending(int rank, boolean isPlace) throws NoSuchElementException {
        checkRank(rank);
        return isPlace ? order.placeAt(rank) : order.lineAt(rank);
    }

    public int rank(int line, int place) throws IndexOutOfBoundsException {
        checkPlace(line, place);
        return order.rankOf(line, place);
    }

    public int rankAgain(int line, int place) throws IndexOutOfBoundsException {
        checkPlace(line, place);
        return book.countEndingsBefore(line, place);
    }

    public int common(int rank) throws NoSuchElementException {
        checkRank(rank);
        if (rank == 0) {
            throw new NoSuchElementException("no ending comes before the first one");
        }
        return order.commonAt(rank);
    }

    public int commonOf(int line, int place, int other, int otherPlace) throws IndexOutOfBoundsException {
        checkPlace(line, place);
        checkPlace(other, otherPlace);
        return book.sameLetters(line, place, other, otherPlace);
    }

    public int longest() {
        return order.longestCommon();
    }

    public int longestRank() throws NoSuchElementException {
        checkRepeat();
        return order.firstLongestRank();
    }

    public int pieces() {
        return order.countPieces(book);
    }

    public int piecesAgain() {
        return Pieces.countNew(book);
    }

    public int kinds() {
        return book.countKinds();
    }

    public int finds() throws IllegalArgumentException {
        checkWord();
        return order.firstRankBehind(book, text) - order.firstRankNotBefore(book, text);
    }

    public int findsAgain() throws IllegalArgumentException {
        checkWord();
        return Pieces.countWord(book, text);
    }

    public int firstFind() throws IllegalArgumentException, NoSuchElementException {
        checkWord();
        int first = order.firstRankNotBefore(book, text);
        if (first == order.firstRankBehind(book, text)) {
            throw new NoSuchElementException("no line has the word");
        }
        return first;
    }

    public boolean isLine() throws IllegalArgumentException {
        checkWord();
        return Pieces.isWordALine(book, text);
    }

    public int shared(int line, int other) throws IndexOutOfBoundsException {
        checkLine(line);
        checkLine(other);
        return Pieces.longestShared(book, line, other);
    }

    public int alone(int line) throws IndexOutOfBoundsException, NoSuchElementException {
        checkLine(line);
        int shortest = Pieces.shortestAlone(book, line);
        checkAlone(shortest);
        return shortest;
    }

    public int alonePlace(int line) throws IndexOutOfBoundsException, NoSuchElementException {
        checkLine(line);
        int shortest = Pieces.shortestAlone(book, line);
        checkAlone(shortest);
        return Pieces.firstAlonePlace(book, line, shortest);
    }

    public boolean isTurned(int line, int other) throws IndexOutOfBoundsException {
        checkLine(line);
        checkLine(other);
        return book.isReverse(line, other);
    }

    public int commands() throws IllegalArgumentException, UnsupportedOperationException {
        fault = reader.read(text);
        before.copyFrom(book);
        boolean isDone = fault == NO_FAULT && reader.carryOut(text, book, refusal);
        text.clear();
        if (fault != NO_FAULT) {
            throw new IllegalArgumentException("the text has a fault");
        }
        if (!isDone) {
            book.copyFrom(before);
        }
        finishChange(isDone);
        return reader.commandCount();
    }

    public int faultPosition() {
        return fault;
    }

    public int reason(int depth, boolean isDetail) throws IllegalArgumentException, NoSuchElementException {
        if (depth < 0 || depth >= MOST_REASONS) {
            throw new IllegalArgumentException("reasons are not that deep");
        }
        if (depth >= refusal.reasonCount()) {
            throw new NoSuchElementException("no such reason is kept");
        }
        return isDetail ? refusal.detailAt(depth) : refusal.reasonAt(depth);
    }

    public int write(int rank) throws NoSuchElementException {
        checkRank(rank);
        int line = order.lineAt(rank);
        int place = order.placeAt(rank);
        written.clear();
        written.putDigit(line);
        written.put('/');
        written.putDigit(place);
        written.put(':');
        written.putLetters(book, line, place, book.size(line) - place);
        return written.length();
    }

    public int writeLongest() throws NoSuchElementException {
        checkRepeat();
        int rank = order.firstLongestRank();
        written.clear();
        written.putLetters(book, order.lineAt(rank), order.placeAt(rank), order.longestCommon());
        return written.length();
    }

    public char character(int index) throws IndexOutOfBoundsException {
        if (index < 0 || index >= written.length()) {
            throw new IndexOutOfBoundsException("no such character is written");
        }
        return written.characterAt(index);
    }

    public float meanLetters() throws ArithmeticException {
        checkNotEmpty();
        return (float) order.endings() / (float) book.lines();
    }

    public double repeatShare() throws ArithmeticException {
        checkNotEmpty();
        return (double) order.countRepeats() / (double) order.endings();
    }

    public int account(int what) throws IllegalArgumentException {
        switch (what) {
            case 0:
                return book.lines();
            case 1:
                return order.endings();
            case 2:
                return Integer.bitCount(book.letterSet());
            case 3:
                return order.sumOfCommons();
            case 4:
                return book.countReversible();
            case 5:
                return history.size();
            case 6:
                return text.length();
            default:
                throw new IllegalArgumentException("there is no such account");
        }
    }

    public int undo() throws IllegalStateException {
        if (history.size() == 0) {
            throw new IllegalStateException("nothing can be undone");
        }
        history.takeLatest(book);
        order.sort(book);
        return history.size();
    }

    public int save() {
        snapshot.copyFrom(book);
        isSaved = true;
        return book.lines();
    }

    public int restore() throws IllegalStateException {
        if (!isSaved) {
            throw new IllegalStateException("nothing was saved");
        }
        book.copyFrom(snapshot);
        history.clear();
        order.sort(book);
        return book.lines();
    }

    private void finishChange(boolean isDone) {
        if (!isDone) {
            throw new UnsupportedOperationException("the change is refused");
        }
        history.keep(before);
        order.sort(book);
    }

    private void checkLine(int line) {
        if (!book.hasLine(line)) {
            throw new IndexOutOfBoundsException("no such line");
        }
    }

    private void checkPlace(int line, int place) {
        if (!book.hasPlace(line, place)) {
            throw new IndexOutOfBoundsException("no such line or place");
        }
    }

    private void checkRank(int rank) {
        if (!order.hasRank(rank)) {
            throw new NoSuchElementException("no such rank");
        }
    }

    private void checkRepeat() {
        if (order.longestCommon() == 0) {
            throw new NoSuchElementException("no piece stands at two places");
        }
    }

    private void checkWord() {
        if (!text.isWord()) {
            throw new IllegalArgumentException("the buffer holds no word");
        }
    }

    /** Lines and endings are both divided by. */
    private void checkNotEmpty() {
        if (book.lines() == 0 || order.endings() == 0) {
            throw new ArithmeticException("there are no lines");
        }
    }

    private void checkAlone(int shortest) {
        if (shortest > MOST_LETTERS) {
            throw new NoSuchElementException("other lines have all pieces of the line");
        }
    }

    private static boolean isSmallLetter(char sign) {
        return sign >= 'a' && sign <= 'z';
    }

    /** The lines. Its changes ask for no reasons: Changes does that. */
    private static final class Book {
        private final char[] letters;
        private final int[] sizes;
        private int lines;

        Book() {
            letters = new char[MOST_ENDINGS];
            sizes = new int[MOST_LINES];
            lines = 0;
        }

        int lines() {
            return lines;
        }

        boolean hasLine(int line) {
            return line >= 0 && line < lines;
        }

        boolean hasPlace(int line, int place) {
            return line >= 0 && line < lines && place >= 0 && place < sizes[line];
        }

        int size(int line) {
            return hasLine(line) ? sizes[line] : 0;
        }

        char letterAt(int line, int place) {
            return hasPlace(line, place) ? letters[line * MOST_LETTERS + place] : NO_LETTER;
        }

        void setLetter(int line, int place, char letter) {
            if (hasPlace(line, place)) {
                letters[line * MOST_LETTERS + place] = letter;
            }
        }

        void openLine() {
            if (lines < MOST_LINES) {
                sizes[lines] = 0;
                lines++;
            }
        }

        void putLetter(int line, char letter) {
            if (hasLine(line) && sizes[line] < MOST_LETTERS) {
                sizes[line]++;
                setLetter(line, sizes[line] - 1, letter);
            }
        }

        void removeLine(int line) {
            if (hasLine(line)) {
                for (int later = line + 1; later < lines; later++) {
                    exchangeLines(later - 1, later);
                }
                lines--;
            }
        }

        void exchangeLines(int line, int other) {
            if (hasLine(line) && hasLine(other)) {
                for (int place = 0; place < MOST_LETTERS; place++) {
                    char letter = letters[line * MOST_LETTERS + place];
                    letters[line * MOST_LETTERS + place] = letters[other * MOST_LETTERS + place];
                    letters[other * MOST_LETTERS + place] = letter;
                }
                int size = sizes[line];
                sizes[line] = sizes[other];
                sizes[other] = size;
            }
        }

        void reverseLine(int line) {
            int last = size(line) - 1;
            for (int place = 0; place < last - place; place++) {
                char letter = letterAt(line, place);
                setLetter(line, place, letterAt(line, last - place));
                setLetter(line, last - place, letter);
            }
        }

        void copyFrom(Book model) {
            System.arraycopy(model.letters, 0, letters, 0, MOST_ENDINGS);
            System.arraycopy(model.sizes, 0, sizes, 0, MOST_LINES);
            lines = model.lines;
        }

        /** With how many same letters two endings begin. */
        int sameLetters(int line, int place, int other, int otherPlace) {
            for (int same = 0; same < MOST_LETTERS; same++) {
                char letter = letterAt(line, place + same);
                if (letter == NO_LETTER || letter != letterAt(other, otherPlace + same)) {
                    return same;
                }
            }
            return MOST_LETTERS;
        }

        boolean comesBefore(int line, int place, int other, int otherPlace) {
            for (int index = 0; index < MOST_LETTERS; index++) {
                char letter = letterAt(line, place + index);
                char otherLetter = letterAt(other, otherPlace + index);
                if (letter != otherLetter) {
                    return letter < otherLetter;
                }
            }
            return line < other;
        }

        int countEndingsBefore(int line, int place) {
            int count = 0;
            for (int other = 0; other < lines; other++) {
                for (int otherPlace = 0; otherPlace < size(other); otherPlace++) {
                    if (comesBefore(other, otherPlace, line, place)) {
                        count++;
                    }
                }
            }
            return count;
        }

        boolean isSame(int line, int other) {
            int size = size(line);
            return size == size(other) && sameLetters(line, 0, other, 0) == size;
        }

        int countSameLines(int line) {
            int count = 0;
            for (int other = 0; other < lines; other++) {
                if (isSame(line, other)) {
                    count++;
                }
            }
            return count;
        }

        int countKinds() {
            int count = 0;
            for (int line = 0; line < lines; line++) {
                int first = 0;
                while (first < line && !isSame(first, line)) {
                    first++;
                }
                if (first == line) {
                    count++;
                }
            }
            return count;
        }

        boolean isReverse(int line, int other) {
            int size = size(line);
            if (size != size(other)) {
                return false;
            }
            for (int place = 0; place < size; place++) {
                if (letterAt(line, place) != letterAt(other, size - 1 - place)) {
                    return false;
                }
            }
            return true;
        }

        int countReversible() {
            int count = 0;
            for (int line = 0; line < lines; line++) {
                if (isReverse(line, line)) {
                    count++;
                }
            }
            return count;
        }

        int period(int line) {
            int size = size(line);
            int period = 1;
            while (period < size && sameLetters(line, period, line, 0) < size - period) {
                period++;
            }
            return period;
        }

        /** The letters of a line as bits, a as the lowest. */
        int letterSet(int line) {
            int set = 0;
            for (int place = 0; place < size(line); place++) {
                set |= 1 << (letterAt(line, place) - 'a');
            }
            return set;
        }

        int letterSet() {
            int set = 0;
            for (int line = 0; line < lines; line++) {
                set |= letterSet(line);
            }
            return set;
        }
    }

    /** What is asked of the pieces of a book without its order. */
    private static final class Pieces {
        static int longestRepeat(Book book, int line) {
            int longest = 0;
            for (int place = 0; place < book.size(line); place++) {
                longest = Math.max(longest, mostInLine(book, line, place, line, place));
            }
            return longest;
        }

        static int longestShared(Book book, int line, int other) {
            int longest = 0;
            for (int place = 0; place < book.size(line); place++) {
                longest = Math.max(longest, mostInLine(book, line, place, other, book.size(other)));
            }
            return longest;
        }

        /** More than a line can have if other lines have all its pieces. */
        static int shortestAlone(Book book, int line) {
            int shortest = MOST_LETTERS + 1;
            for (int place = 0; place < book.size(line); place++) {
                shortest = Math.min(shortest, shortestAloneAt(book, line, place));
            }
            return shortest;
        }

        static int firstAlonePlace(Book book, int line, int shortest) {
            int place = 0;
            while (place < book.size(line) && shortestAloneAt(book, line, place) != shortest) {
                place++;
            }
            return place;
        }

        private static int shortestAloneAt(Book book, int line, int place) {
            int most = 0;
            for (int other = 0; other < book.lines(); other++) {
                if (other != line) {
                    most = Math.max(most, mostInLine(book, line, place, other, book.size(other)));
                }
            }
            return most < book.size(line) - place ? most + 1 : MOST_LETTERS + 1;
        }

        /** Of the pieces that begin at a place, those are new that are longer than what stands further ahead. */
        static int countNew(Book book) {
            int count = 0;
            for (int line = 0; line < book.lines(); line++) {
                for (int place = 0; place < book.size(line); place++) {
                    count += book.size(line) - place - mostFurtherAhead(book, line, place);
                }
            }
            return count;
        }

        private static int mostFurtherAhead(Book book, int line, int place) {
            int most = mostInLine(book, line, place, line, place);
            for (int other = 0; other < line; other++) {
                most = Math.max(most, mostInLine(book, line, place, other, book.size(other)));
            }
            return most;
        }

        /** The most letters that an ending has in common with those of a line at its places before the end. */
        private static int mostInLine(Book book, int line, int place, int other, int end) {
            int most = 0;
            for (int otherPlace = 0; otherPlace < end; otherPlace++) {
                most = Math.max(most, book.sameLetters(line, place, other, otherPlace));
            }
            return most;
        }

        static int countWord(Book book, Text word) {
            int count = 0;
            for (int line = 0; line < book.lines(); line++) {
                for (int place = 0; place < book.size(line); place++) {
                    if (compareToWord(book, line, place, word) == 0) {
                        count++;
                    }
                }
            }
            return count;
        }

        static boolean isWordALine(Book book, Text word) {
            for (int line = 0; line < book.lines(); line++) {
                if (book.size(line) == word.length() && compareToWord(book, line, 0, word) == 0) {
                    return true;
                }
            }
            return false;
        }

        /** Below 0 if the ending comes before the word, 0 if it begins with it, above 0 if it comes behind. */
        static int compareToWord(Book book, int line, int place, Text word) {
            for (int index = 0; index < word.length(); index++) {
                char letter = book.letterAt(line, place + index);
                if (letter != word.characterAt(index)) {
                    return letter - word.characterAt(index);
                }
            }
            return 0;
        }
    }

    /** All endings of a book as they stood when they were sorted. */
    private static final class EndingOrder {
        private final int[] lines;
        private final int[] places;
        private final int[] commons;
        private int endings;

        EndingOrder() {
            lines = new int[MOST_ENDINGS];
            places = new int[MOST_ENDINGS];
            commons = new int[MOST_ENDINGS];
            endings = 0;
        }

        int endings() {
            return endings;
        }

        boolean hasRank(int rank) {
            return rank >= 0 && rank < endings;
        }

        int lineAt(int rank) {
            return hasRank(rank) ? lines[rank] : 0;
        }

        int placeAt(int rank) {
            return hasRank(rank) ? places[rank] : 0;
        }

        /** What the ending has in common with the one before; the first one has nothing. */
        int commonAt(int rank) {
            return hasRank(rank) ? commons[rank] : 0;
        }

        void sort(Book book) {
            endings = 0;
            for (int line = 0; line < book.lines(); line++) {
                for (int place = 0; place < book.size(line); place++) {
                    insert(rankToTake(book, line, place), line, place);
                }
            }
            for (int rank = 1; rank < endings; rank++) {
                commons[rank] = book.sameLetters(lines[rank - 1], places[rank - 1], lines[rank], places[rank]);
            }
        }

        private int rankToTake(Book book, int line, int place) {
            int low = 0;
            int high = endings;
            for (int halving = 0; halving < MOST_HALVINGS && low < high; halving++) {
                int middle = (low + high) / 2;
                if (book.comesBefore(lineAt(middle), placeAt(middle), line, place)) {
                    low = middle + 1;
                } else {
                    high = middle;
                }
            }
            return low;
        }

        private void insert(int rank, int line, int place) {
            if (rank >= 0 && rank <= endings && endings < MOST_ENDINGS) {
                for (int later = endings; later > rank; later--) {
                    lines[later] = lines[later - 1];
                    places[later] = places[later - 1];
                }
                lines[rank] = line;
                places[rank] = place;
                endings++;
            }
        }

        int rankOf(int line, int place) {
            int rank = 0;
            while (rank < endings && (lines[rank] != line || places[rank] != place)) {
                rank++;
            }
            return rank;
        }

        int longestCommon() {
            int longest = 0;
            for (int rank = 1; rank < endings; rank++) {
                longest = Math.max(longest, commons[rank]);
            }
            return longest;
        }

        /** The first ending of two neighbours begins with what they have in common, too. */
        int firstLongestRank() {
            int longest = longestCommon();
            int rank = 1;
            while (rank < endings && commons[rank] != longest) {
                rank++;
            }
            return rank - 1;
        }

        int sumOfCommons() {
            int sum = 0;
            for (int rank = 1; rank < endings; rank++) {
                sum += commons[rank];
            }
            return sum;
        }

        int countRepeats() {
            int count = 0;
            for (int rank = 1; rank < endings; rank++) {
                if (commons[rank] > 0) {
                    count++;
                }
            }
            return count;
        }

        int countPieces(Book book) {
            int count = 0;
            for (int rank = 0; rank < endings; rank++) {
                count += book.size(lines[rank]) - places[rank] - commonAt(rank);
            }
            return count;
        }

        int firstRankNotBefore(Book book, Text word) {
            return firstRankAbove(book, word, -1);
        }

        int firstRankBehind(Book book, Text word) {
            return firstRankAbove(book, word, 0);
        }

        /** The first rank whose ending compares with the word as more than the bound. */
        private int firstRankAbove(Book book, Text word, int bound) {
            int low = 0;
            int high = endings;
            for (int halving = 0; halving < MOST_HALVINGS && low < high; halving++) {
                int middle = (low + high) / 2;
                if (Pieces.compareToWord(book, lineAt(middle), placeAt(middle), word) > bound) {
                    high = middle;
                } else {
                    low = middle + 1;
                }
            }
            return low;
        }
    }

    /** A row of characters: the text buffer, or the line that was written, which needs less room. */
    private static final class Text {
        private final char[] characters;
        private int length;

        Text() {
            characters = new char[MOST_CHARACTERS];
            length = 0;
        }

        int length() {
            return length;
        }

        boolean isFull() {
            return length >= MOST_CHARACTERS;
        }

        void put(char character) {
            if (length < MOST_CHARACTERS) {
                characters[length] = character;
                length++;
            }
        }

        void clear() {
            length = 0;
        }

        char characterAt(int index) {
            return index >= 0 && index < length ? characters[index] : NO_LETTER;
        }

        void putDigit(int digit) {
            put((char) ('0' + digit));
        }

        int digitAt(int index) {
            return characterAt(index) - '0';
        }

        void putLetters(Book book, int line, int place, int count) {
            for (int index = 0; index < count; index++) {
                put(book.letterAt(line, place + index));
            }
        }

        boolean isWord() {
            if (length == 0 || length > MOST_LETTERS) {
                return false;
            }
            for (int index = 0; index < length; index++) {
                if (!isSmallLetter(characters[index])) {
                    return false;
                }
            }
            return true;
        }
    }

    /** The reason that is kept, and its causes behind it. */
    private static final class Refusal {
        private final int[] reasons;
        private final int[] details;
        private int count;

        Refusal() {
            reasons = new int[MOST_REASONS];
            details = new int[MOST_REASONS];
            count = 0;
        }

        int reasonCount() {
            return count;
        }

        int reasonAt(int depth) {
            return depth >= 0 && depth < count ? reasons[depth] : 0;
        }

        int detailAt(int depth) {
            return depth >= 0 && depth < count ? details[depth] : 0;
        }

        void keep(int reason, int detail) {
            reasons[0] = reason;
            details[0] = detail;
            count = 1;
        }

        void keepCause(int reason, int detail) {
            if (count < MOST_REASONS) {
                reasons[count] = reason;
                details[count] = detail;
                count++;
            }
        }

        /** Keeps a reason whose cause is the one that is kept. */
        void keepOnTop(int reason, int detail) {
            count = Math.min(count + 1, MOST_REASONS);
            for (int depth = count - 1; depth > 0; depth--) {
                reasons[depth] = reasons[depth - 1];
                details[depth] = details[depth - 1];
            }
            reasons[0] = reason;
            details[0] = detail;
        }
    }

    /** The changes that can be refused: each is carried out, or its reason is kept. The answer tells which. */
    private static final class Changes {
        static boolean addText(Book book, Refusal refusal, Text text) {
            if (!text.isWord()) {
                refusal.keep(NO_WORD, text.length());
                return false;
            }
            return addWord(book, refusal, text, 0, text.length());
        }

        static boolean addWord(Book book, Refusal refusal, Text text, int start, int end) {
            int line = book.lines();
            if (line >= MOST_LINES) {
                refusal.keep(ALL_LINES_THERE, line);
                return false;
            }
            book.openLine();
            for (int index = start; index < end; index++) {
                book.putLetter(line, text.characterAt(index));
            }
            return true;
        }

        static boolean cutLine(Book book, Refusal refusal, int line) {
            if (isMissing(book, refusal, line)) {
                return false;
            }
            book.removeLine(line);
            return true;
        }

        static boolean changeLetter(Book book, Refusal refusal, int line, int place, char letter) {
            if (isMissing(book, refusal, line)) {
                return false;
            }
            if (!book.hasPlace(line, place)) {
                refusal.keep(NO_SUCH_PLACE, place);
                return false;
            }
            if (!isSmallLetter(letter)) {
                refusal.keep(NOT_A_LETTER, letter);
                return false;
            }
            if (book.letterAt(line, place) == letter) {
                refusal.keep(LETTER_THERE, place);
                return false;
            }
            book.setLetter(line, place, letter);
            return true;
        }

        static boolean swapLines(Book book, Refusal refusal, int line, int other) {
            if (isNoPair(book, refusal, line, other)) {
                return false;
            }
            book.exchangeLines(line, other);
            return true;
        }

        static boolean joinLines(Book book, Refusal refusal, int line, int other) {
            if (isNoPair(book, refusal, line, other)) {
                return false;
            }
            int joined = book.size(line) + book.size(other);
            if (joined > MOST_LETTERS) {
                refusal.keep(LINE_TOO_LONG, joined);
                refusal.keepCause(CUT_LINE_HAS_LETTERS, book.size(other));
                return false;
            }
            for (int place = 0; place < book.size(other); place++) {
                book.putLetter(line, book.letterAt(other, place));
            }
            book.removeLine(other);
            return true;
        }

        static boolean turnLine(Book book, Refusal refusal, int line) {
            if (isMissing(book, refusal, line)) {
                return false;
            }
            if (book.isReverse(line, line)) {
                refusal.keep(SAME_WHEN_TURNED, line);
                return false;
            }
            book.reverseLine(line);
            return true;
        }

        private static boolean isNoPair(Book book, Refusal refusal, int line, int other) {
            if (isMissing(book, refusal, line) || isMissing(book, refusal, other)) {
                return true;
            }
            if (line == other) {
                refusal.keep(SAME_LINE, line);
                return true;
            }
            return false;
        }

        private static boolean isMissing(Book book, Refusal refusal, int line) {
            if (book.hasLine(line)) {
                return false;
            }
            refusal.keep(NO_SUCH_LINE, line);
            return true;
        }
    }

    /** Reads a text of commands, and carries them out. */
    private static final class CommandReader {
        private final int[] starts;
        private int count;
        private String shape;
        private int step;

        CommandReader() {
            starts = new int[MOST_CHARACTERS];
            count = 0;
            shape = "";
            step = 0;
        }

        int commandCount() {
            return count;
        }

        /** The fault position, or NO_FAULT. */
        int read(Text text) {
            count = 0;
            startCommand(0);
            for (int index = 0; index < text.length(); index++) {
                if (!takes(text.characterAt(index), index)) {
                    return index;
                }
            }
            return isWhole() ? NO_FAULT : text.length();
        }

        private void startCommand(int start) {
            if (count < MOST_CHARACTERS) {
                starts[count] = start;
                count++;
            }
            shape = "";
            step = 0;
        }

        private boolean takes(char character, int index) {
            if (character == ';' && isWhole()) {
                startCommand(index + 1);
                return true;
            }
            step++;
            if (step == 1) {
                shape = shapeOf(character);
                return !shape.isEmpty();
            }
            return step <= shape.length() && fits(character, shape.charAt(step - 1));
        }

        /** A command as signs: s for its sign, d for a digit, l for a letter, m for a letter that may be missing. */
        private static String shapeOf(char sign) {
            switch (sign) {
                case '+':
                    return "slmmmmmmmmm";
                case '-':
                case 't':
                    return "sd";
                case 'x':
                case 'j':
                    return "sdd";
                case '=':
                    return "sddl";
                default:
                    return "";
            }
        }

        private static boolean fits(char character, char due) {
            return due == 'd' ? character >= '0' && character <= '9' : isSmallLetter(character);
        }

        private boolean isWhole() {
            return step > 0 && (step >= shape.length() || shape.charAt(step) == 'm');
        }

        /** Whether no command of the text, which has no fault, was refused; if one was, those ahead of it are done. */
        boolean carryOut(Text text, Book book, Refusal refusal) {
            for (int index = 0; index < count; index++) {
                if (!carryOutOne(text, index, book, refusal)) {
                    refusal.keepOnTop(COMMAND_REFUSED, index);
                    return false;
                }
            }
            return true;
        }

        private boolean carryOutOne(Text text, int index, Book book, Refusal refusal) {
            int start = starts[index];
            int line = text.digitAt(start + 1);
            int other = text.digitAt(start + 2);
            switch (text.characterAt(start)) {
                case '+':
                    return Changes.addWord(book, refusal, text, start + 1, endOf(index, text));
                case '-':
                    return Changes.cutLine(book, refusal, line);
                case '=':
                    return Changes.changeLetter(book, refusal, line, other, text.characterAt(start + 3));
                case 'x':
                    return Changes.swapLines(book, refusal, line, other);
                case 'j':
                    return Changes.joinLines(book, refusal, line, other);
                default:
                    return Changes.turnLine(book, refusal, line);
            }
        }

        private int endOf(int index, Text text) {
            return index + 1 < count ? starts[index + 1] - 1 : text.length();
        }
    }

    /** What there was before each of the latest changes, in a ring. */
    private static final class History {
        private final Book[] books;
        private int oldest;
        private int size;

        History() {
            books = new Book[MOST_CHANGES];
            for (int index = 0; index < MOST_CHANGES; index++) {
                books[index] = new Book();
            }
            oldest = 0;
            size = 0;
        }

        int size() {
            return size;
        }

        void clear() {
            size = 0;
        }

        void keep(Book book) {
            books[(oldest + size) % MOST_CHANGES].copyFrom(book);
            if (size < MOST_CHANGES) {
                size++;
            } else {
                oldest = (oldest + 1) % MOST_CHANGES;
            }
        }

        void takeLatest(Book book) {
            if (size > 0) {
                size--;
                book.copyFrom(books[(oldest + size) % MOST_CHANGES]);
            }
        }
    }
}
