import java.util.ArrayList;
import java.util.List;
import java.util.function.Supplier;

/** All small books of the letters a and b, and all short texts of commands, compared with the model. */
public final class SmallBooksTest {
    private static final Check CHECK = new Check("SmallBooksTest");
    private static final int MOST_LINES = 3;
    private static final int MOST_LETTERS = 6;
    private static final int MOST_LETTERS_TO_CHANGE = 4;
    private static final int LONGEST_WORD = 3;
    private static final int LONGEST_TEXT = 4;
    private static final String LETTERS = "ab";
    private static final String SIGNS = "+-=xjt;019/:az`{";

    private final String name;
    private final int lines;
    private final HymnEndings book;
    private final Model model;

    private SmallBooksTest(List<String> lines) {
        name = lines.toString();
        this.lines = lines.size();
        book = Books.of(lines.toArray(new String[0]));
        model = new Model();
        for (String line : lines) {
            line.chars().forEach(letter -> model.append((char) letter));
            model.add();
        }
    }

    public static void main(String[] args) {
        for (List<String> lines : books()) {
            new SmallBooksTest(lines).ask();
            if (String.join("", lines).length() <= MOST_LETTERS_TO_CHANGE) {
                changes(lines);
            }
        }
        faults();
        CHECK.finish();
    }

    /** All texts of these signs, from one on. */
    private static List<String> texts(String signs, int longest) {
        List<String> texts = new ArrayList<>(List.of(""));
        for (int index = 0; index < texts.size(); index++) {
            for (char sign : signs.toCharArray()) {
                if (texts.get(index).length() < longest) {
                    texts.add(texts.get(index) + sign);
                }
            }
        }
        return texts.subList(1, texts.size());
    }

    private static List<List<String>> books() {
        List<List<String>> books = new ArrayList<>(List.of(List.of()));
        List<String> words = texts(LETTERS, MOST_LETTERS);
        for (int index = 0; index < books.size(); index++) {
            List<String> lines = books.get(index);
            for (String word : words) {
                if (lines.size() < MOST_LINES && String.join("", lines).length() + word.length() <= MOST_LETTERS) {
                    List<String> more = new ArrayList<>(lines);
                    more.add(word);
                    books.add(more);
                }
            }
        }
        return books;
    }

    private void same(String what, Supplier<?> got, Supplier<?> due) {
        CHECK.same(name + " " + what, got, due);
    }

    private void ask() {
        askBook();
        askOrder();
        for (int line = -1; line <= model.account(0); line++) {
            askLine(line);
            for (int other = -1; other <= model.account(0); other++) {
                askPair(line, other);
            }
        }
        for (String word : texts(LETTERS, LONGEST_WORD)) {
            askWord(word);
        }
    }

    private void askBook() {
        same("longest", book::longest, model::longest);
        same("longestRank", book::longestRank, model::longestRank);
        same("writeLongest", book::writeLongest, model::writeLongest);
        askWritten();
        same("pieces", book::pieces, model::pieces);
        same("piecesAgain", book::piecesAgain, model::pieces);
        same("kinds", book::kinds, model::kinds);
        same("meanLetters", book::meanLetters, model::meanLetters);
        same("repeatShare", book::repeatShare, model::repeatShare);
        for (int what = -1; what <= 7; what++) {
            int number = what;
            same("account " + what, () -> book.account(number), () -> model.account(number));
        }
    }

    private void askWritten() {
        for (int index = -1; index <= MOST_LETTERS; index++) {
            int at = index;
            same("character " + index, () -> book.character(at), () -> model.character(at));
        }
    }

    private void askOrder() {
        for (int rank = -1; rank <= model.account(1); rank++) {
            int at = rank;
            same("line of rank " + rank, () -> book.ending(at, false), () -> model.ending(at, false));
            same("place of rank " + rank, () -> book.ending(at, true), () -> model.ending(at, true));
            same("common " + rank, () -> book.common(at), () -> model.common(at));
            same("write " + rank, () -> book.write(at), () -> model.write(at));
        }
        askWritten();
    }

    private void askLine(int line) {
        for (int what = -1; what <= 5; what++) {
            int number = what;
            same("lineOf " + line + " " + what, () -> book.lineOf(line, number), () -> model.lineOf(line, number));
        }
        same("alone " + line, () -> book.alone(line), () -> model.alone(line));
        same("alonePlace " + line, () -> book.alonePlace(line), () -> model.alonePlace(line));
        for (int place = -1; place <= sizeOf(line); place++) {
            int at = place;
            String told = line + "/" + place;
            same("letter " + told, () -> book.letter(line, at), () -> model.letter(line, at));
            same("rank " + told, () -> book.rank(line, at), () -> model.rank(line, at));
            same("rankAgain " + told, () -> book.rankAgain(line, at), () -> model.rank(line, at));
        }
    }

    private int sizeOf(int line) {
        return line >= 0 && line < model.account(0) ? model.lineOf(line, 0) : 0;
    }

    private void askPair(int line, int other) {
        String told = line + ", " + other;
        same("shared " + told, () -> book.shared(line, other), () -> model.shared(line, other));
        same("isTurned " + told, () -> book.isTurned(line, other), () -> model.isTurned(line, other));
        for (int place = 0; place < sizeOf(line); place++) {
            for (int otherPlace = 0; otherPlace <= sizeOf(other); otherPlace++) {
                int at = place;
                int otherAt = otherPlace;
                same("commonOf " + told + " at " + place + ", " + otherPlace,
                        () -> book.commonOf(line, at, other, otherAt), () -> model.commonOf(line, at, other, otherAt));
            }
        }
    }

    /** A word is no text of commands, so that these empty the buffer. */
    private void askWord(String word) {
        for (char letter : word.toCharArray()) {
            same("append", () -> book.append(letter), () -> model.append(letter));
        }
        same("finds " + word, book::finds, model::finds);
        same("findsAgain " + word, book::findsAgain, model::finds);
        same("firstFind " + word, book::firstFind, model::firstFind);
        same("isLine " + word, book::isLine, model::isLine);
        same("commands " + word, book::commands, model::commands);
    }

    private static void changes(List<String> lines) {
        for (int line = -1; line <= lines.size(); line++) {
            new SmallBooksTest(lines).cutOrTurn(line);
            for (int other = -1; other <= lines.size(); other++) {
                new SmallBooksTest(lines).swapOrJoin(line, other);
            }
            for (int place = -1; place <= MOST_LETTERS_TO_CHANGE; place++) {
                new SmallBooksTest(lines).changeLetters(line, place);
            }
        }
    }

    private void cutOrTurn(int line) {
        same("turn " + line, () -> book.turn(line), () -> model.turn(line));
        askChanged("turned " + line);
        same("cut " + line, () -> book.cut(line), () -> model.cut(line));
        askChanged("cut " + line);
    }

    private void swapOrJoin(int line, int other) {
        String told = line + ", " + other;
        same("swap " + told, () -> book.swap(line, other), () -> model.swap(line, other));
        askChanged("swapped " + told);
        same("join " + told, () -> book.join(line, other), () -> model.join(line, other));
        askChanged("joined " + told);
    }

    private void changeLetters(int line, int place) {
        for (char letter : "`abc".toCharArray()) {
            String told = line + "/" + place + " to " + letter;
            same("change " + told, () -> book.change(line, place, letter), () -> model.change(line, place, letter));
            askChanged("changed " + told);
        }
    }

    /** The lines and the reasons, after a change that is undone, if there was one. */
    private void askChanged(String change) {
        for (int depth = 0; depth <= 2; depth++) {
            int at = depth;
            same(change + ", reason", () -> book.reason(at, false), () -> model.reason(at, false));
            same(change + ", detail", () -> book.reason(at, true), () -> model.reason(at, true));
        }
        askLines(change);
        if (model.account(5) > lines) {
            same(change + ", undo", book::undo, model::undo);
            askLines(change + ", undone");
        }
    }

    private void askLines(String change) {
        for (int rank = 0; rank <= model.account(1); rank++) {
            int at = rank;
            same(change + ", line of rank " + rank, () -> book.ending(at, false), () -> model.ending(at, false));
            same(change + ", write " + rank, () -> book.write(at), () -> model.write(at));
        }
    }

    /** No line is there, so that only texts of words to add are carried out. */
    private static void faults() {
        SmallBooksTest test = new SmallBooksTest(List.of());
        int texts = 0;
        for (String text : texts(SIGNS, LONGEST_TEXT)) {
            test = texts % 50 == 0 ? new SmallBooksTest(List.of()) : test;
            test.askFault(text);
            texts++;
        }
    }

    private void askFault(String text) {
        for (char sign : text.toCharArray()) {
            book.append(sign);
            model.append(sign);
        }
        same("commands " + text, book::commands, model::commands);
        same("fault of " + text, book::faultPosition, model::faultPosition);
        same("reason of " + text, () -> book.reason(0, true), () -> model.reason(0, true));
    }
}
