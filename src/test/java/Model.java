import java.util.ArrayDeque;
import java.util.ArrayList;
import java.util.Comparator;
import java.util.Deque;
import java.util.HashSet;
import java.util.List;
import java.util.NoSuchElementException;
import java.util.Set;
import java.util.TreeSet;
import java.util.regex.Matcher;
import java.util.regex.Pattern;

/** The document once more, written with texts, lists and patterns, so that it shares no way with HymnEndings. */
final class Model {
    record Ending(int line, int place, String letters) {
    }

    private static final Pattern WORD = Pattern.compile("[a-z]{1,10}");
    private static final Pattern COMMANDS = Pattern.compile(
            "(\\+[a-z]{1,10}|-[0-9]|=[0-9][0-9][a-z]|[xj][0-9][0-9]|t[0-9])"
            + "(;(\\+[a-z]{1,10}|-[0-9]|=[0-9][0-9][a-z]|[xj][0-9][0-9]|t[0-9]))*");

    private List<String> lines = new ArrayList<>();
    private final Deque<List<String>> history = new ArrayDeque<>();
    private List<String> snapshot;
    private String buffer = "";
    private String written = "";
    private int fault = -1;
    private List<int[]> reasons = new ArrayList<>();

    // What is refused is told by a list of reasons, each with its detail.
    private static List<int[]> because(int... numbers) {
        List<int[]> list = new ArrayList<>();
        for (int index = 0; index < numbers.length; index += 2) {
            list.add(new int[] {numbers[index], numbers[index + 1]});
        }
        return list;
    }

    private List<int[]> tryAdd(String word) {
        if (!WORD.matcher(word).matches()) {
            return because(9, word.length());
        }
        if (lines.size() == 8) {
            return because(1, 8);
        }
        lines.add(word);
        return null;
    }

    private boolean has(int line) {
        return line >= 0 && line < lines.size();
    }

    private List<int[]> tryCut(int line) {
        if (!has(line)) {
            return because(2, line);
        }
        lines.remove(line);
        return null;
    }

    private List<int[]> tryChange(int line, int place, char letter) {
        if (!has(line)) {
            return because(2, line);
        }
        String old = lines.get(line);
        if (place < 0 || place >= old.length()) {
            return because(3, place);
        }
        if (letter < 'a' || letter > 'z') {
            return because(4, letter);
        }
        if (old.charAt(place) == letter) {
            return because(5, place);
        }
        lines.set(line, old.substring(0, place) + letter + old.substring(place + 1));
        return null;
    }

    private List<int[]> pairFault(int line, int other) {
        if (!has(line)) {
            return because(2, line);
        }
        if (!has(other)) {
            return because(2, other);
        }
        return line == other ? because(6, line) : null;
    }

    private List<int[]> trySwap(int line, int other) {
        List<int[]> refused = pairFault(line, other);
        if (refused == null) {
            String kept = lines.get(line);
            lines.set(line, lines.get(other));
            lines.set(other, kept);
        }
        return refused;
    }

    private List<int[]> tryJoin(int line, int other) {
        List<int[]> refused = pairFault(line, other);
        if (refused != null) {
            return refused;
        }
        String joined = lines.get(line) + lines.get(other);
        if (joined.length() > 10) {
            return because(7, joined.length(), 11, lines.get(other).length());
        }
        lines.set(line, joined);
        lines.remove(other);
        return null;
    }

    private List<int[]> tryTurn(int line) {
        if (!has(line)) {
            return because(2, line);
        }
        String turned = turned(lines.get(line));
        if (turned.equals(lines.get(line))) {
            return because(8, line);
        }
        lines.set(line, turned);
        return null;
    }

    private static String turned(String line) {
        return new StringBuilder(line).reverse().toString();
    }

    private void finish(List<String> old, List<int[]> refused) {
        if (refused != null) {
            lines = old;
            reasons = refused;
            throw new UnsupportedOperationException();
        }
        history.addLast(old);
        if (history.size() > 8) {
            history.removeFirst();
        }
    }

    int append(char character) {
        if (buffer.length() == 60) {
            throw new IllegalStateException();
        }
        buffer += character;
        return buffer.length();
    }

    int add() {
        List<String> old = new ArrayList<>(lines);
        String word = buffer;
        buffer = "";
        finish(old, tryAdd(word));
        return lines.size() - 1;
    }

    int cut(int line) {
        List<String> old = new ArrayList<>(lines);
        finish(old, tryCut(line));
        return lines.size();
    }

    int change(int line, int place, char letter) {
        List<String> old = new ArrayList<>(lines);
        finish(old, tryChange(line, place, letter));
        return rank(line, place);
    }

    int swap(int line, int other) {
        List<String> old = new ArrayList<>(lines);
        finish(old, trySwap(line, other));
        return Math.max(lines.get(line).length(), lines.get(other).length());
    }

    int join(int line, int other) {
        List<String> old = new ArrayList<>(lines);
        finish(old, tryJoin(line, other));
        return other < line ? line - 1 : line;
    }

    int turn(int line) {
        List<String> old = new ArrayList<>(lines);
        finish(old, tryTurn(line));
        return rank(line, 0);
    }

    private String line(int line) {
        if (!has(line)) {
            throw new IndexOutOfBoundsException();
        }
        return lines.get(line);
    }

    private String endingAt(int line, int place) {
        if (place < 0 || place >= line(line).length()) {
            throw new IndexOutOfBoundsException();
        }
        return line(line).substring(place);
    }

    int lineOf(int line, int what) {
        String letters = line(line);
        switch (what) {
            case 0:
                return letters.length();
            case 1:
                return (int) letters.chars().distinct().count();
            case 2:
                return (int) lines.stream().filter(letters::equals).count();
            case 3:
                for (int period = 1;; period++) {
                    if (letters.startsWith(letters.substring(period))) {
                        return period;
                    }
                }
            case 4:
                for (int length = letters.length() - 1; length > 0; length--) {
                    for (int place = 0; place + length < letters.length(); place++) {
                        if (letters.indexOf(letters.substring(place, place + length), place + 1) >= 0) {
                            return length;
                        }
                    }
                }
                return 0;
            default:
                throw new IllegalArgumentException();
        }
    }

    char letter(int line, int place) {
        return endingAt(line, place).charAt(0);
    }

    private List<Ending> endings() {
        List<Ending> endings = new ArrayList<>();
        for (int line = 0; line < lines.size(); line++) {
            for (int place = 0; place < lines.get(line).length(); place++) {
                endings.add(new Ending(line, place, lines.get(line).substring(place)));
            }
        }
        endings.sort(Comparator.comparing(Ending::letters).thenComparing(Ending::line));
        return endings;
    }

    private Ending endingOf(int rank) {
        if (rank < 0 || rank >= endings().size()) {
            throw new NoSuchElementException();
        }
        return endings().get(rank);
    }

    int ending(int rank, boolean isPlace) {
        return isPlace ? endingOf(rank).place() : endingOf(rank).line();
    }

    int rank(int line, int place) {
        return endings().indexOf(new Ending(line, place, endingAt(line, place)));
    }

    private static int same(String one, String other) {
        int same = 0;
        while (same < one.length() && same < other.length() && one.charAt(same) == other.charAt(same)) {
            same++;
        }
        return same;
    }

    int common(int rank) {
        Ending ending = endingOf(rank);
        return same(endingOf(rank - 1).letters(), ending.letters());
    }

    int commonOf(int line, int place, int other, int otherPlace) {
        return same(endingAt(line, place), endingAt(other, otherPlace));
    }

    /** The longest piece that stands at two places, the first by the order of a reader; "" without one. */
    private String longestPiece() {
        String longest = "";
        TreeSet<String> seen = new TreeSet<>();
        TreeSet<String> twice = new TreeSet<>();
        for (Ending ending : endings()) {
            for (int length = 1; length <= ending.letters().length(); length++) {
                String piece = ending.letters().substring(0, length);
                if (!seen.add(piece)) {
                    twice.add(piece);
                }
            }
        }
        for (String piece : twice) {
            longest = piece.length() > longest.length() ? piece : longest;
        }
        return longest;
    }

    int longest() {
        return longestPiece().length();
    }

    int longestRank() {
        String longest = longestPiece();
        if (longest.isEmpty()) {
            throw new NoSuchElementException();
        }
        return firstWith(longest);
    }

    private int firstWith(String word) {
        List<Ending> endings = endings();
        for (int rank = 0; rank < endings.size(); rank++) {
            if (endings.get(rank).letters().startsWith(word)) {
                return rank;
            }
        }
        throw new NoSuchElementException();
    }

    int pieces() {
        Set<String> pieces = new HashSet<>();
        for (String line : lines) {
            pieces.addAll(piecesOf(line));
        }
        return pieces.size();
    }

    private static List<String> piecesOf(String line) {
        List<String> pieces = new ArrayList<>();
        for (int length = 1; length <= line.length(); length++) {
            for (int place = 0; place + length <= line.length(); place++) {
                pieces.add(line.substring(place, place + length));
            }
        }
        return pieces;
    }

    int kinds() {
        return new HashSet<>(lines).size();
    }

    private String word() {
        if (!WORD.matcher(buffer).matches()) {
            throw new IllegalArgumentException();
        }
        return buffer;
    }

    int finds() {
        String word = word();
        return (int) endings().stream().filter(ending -> ending.letters().startsWith(word)).count();
    }

    int firstFind() {
        return firstWith(word());
    }

    boolean isLine() {
        return lines.contains(word());
    }

    int shared(int line, int other) {
        int longest = 0;
        String letters = line(line);
        String otherLetters = line(other);
        for (String piece : piecesOf(letters)) {
            longest = otherLetters.contains(piece) ? piece.length() : longest;
        }
        return longest;
    }

    /** The pieces come by length, then by place. */
    private String alonePiece(int line) {
        String letters = line(line);
        List<String> others = new ArrayList<>(lines);
        others.remove(line);
        for (String piece : piecesOf(letters)) {
            if (others.stream().noneMatch(other -> other.contains(piece))) {
                return piece;
            }
        }
        throw new NoSuchElementException();
    }

    int alone(int line) {
        return alonePiece(line).length();
    }

    int alonePlace(int line) {
        return line(line).indexOf(alonePiece(line));
    }

    boolean isTurned(int line, int other) {
        return turned(line(line)).equals(line(other));
    }

    int commands() {
        String text = buffer;
        buffer = "";
        fault = faultOf(text);
        if (fault >= 0) {
            throw new IllegalArgumentException();
        }
        List<String> old = new ArrayList<>(lines);
        String[] commands = text.split(";");
        for (int index = 0; index < commands.length; index++) {
            List<int[]> refused = carryOut(commands[index]);
            if (refused != null) {
                refused.add(0, new int[] {10, index});
                finish(old, refused);
            }
        }
        finish(old, null);
        return commands.length;
    }

    /** A character can continue a text if what there is then matches, or could with more characters. */
    private static int faultOf(String text) {
        for (int length = 1; length <= text.length(); length++) {
            Matcher matcher = COMMANDS.matcher(text.substring(0, length));
            if (!matcher.matches() && !matcher.hitEnd()) {
                return length - 1;
            }
        }
        return COMMANDS.matcher(text).matches() ? -1 : text.length();
    }

    private List<int[]> carryOut(String command) {
        int line = command.charAt(1) - '0';
        int other = command.length() > 2 ? command.charAt(2) - '0' : 0;
        switch (command.charAt(0)) {
            case '+':
                return tryAdd(command.substring(1));
            case '-':
                return tryCut(line);
            case '=':
                return tryChange(line, other, command.charAt(3));
            case 'x':
                return trySwap(line, other);
            case 'j':
                return tryJoin(line, other);
            default:
                return tryTurn(line);
        }
    }

    int faultPosition() {
        return fault;
    }

    int reason(int depth, boolean isDetail) {
        if (depth < 0 || depth > 2) {
            throw new IllegalArgumentException();
        }
        if (depth >= reasons.size()) {
            throw new NoSuchElementException();
        }
        return reasons.get(depth)[isDetail ? 1 : 0];
    }

    int write(int rank) {
        Ending ending = endingOf(rank);
        written = ending.line() + "/" + ending.place() + ":" + ending.letters();
        return written.length();
    }

    int writeLongest() {
        if (longestPiece().isEmpty()) {
            throw new NoSuchElementException();
        }
        written = longestPiece();
        return written.length();
    }

    char character(int index) {
        if (index < 0 || index >= written.length()) {
            throw new IndexOutOfBoundsException();
        }
        return written.charAt(index);
    }

    private int allLetters() {
        return String.join("", lines).length();
    }

    float meanLetters() {
        if (lines.isEmpty()) {
            throw new ArithmeticException();
        }
        return (float) allLetters() / (float) lines.size();
    }

    double repeatShare() {
        if (lines.isEmpty()) {
            throw new ArithmeticException();
        }
        int repeats = 0;
        for (int rank = 1; rank < allLetters(); rank++) {
            repeats += common(rank) > 0 ? 1 : 0;
        }
        return (double) repeats / (double) allLetters();
    }

    int account(int what) {
        switch (what) {
            case 0:
                return lines.size();
            case 1:
                return allLetters();
            case 2:
                return (int) String.join("", lines).chars().distinct().count();
            case 3:
                int sum = 0;
                for (int rank = 1; rank < allLetters(); rank++) {
                    sum += common(rank);
                }
                return sum;
            case 4:
                return (int) lines.stream().filter(line -> turned(line).equals(line)).count();
            case 5:
                return history.size();
            case 6:
                return buffer.length();
            default:
                throw new IllegalArgumentException();
        }
    }

    int undo() {
        if (history.isEmpty()) {
            throw new IllegalStateException();
        }
        lines = history.removeLast();
        return history.size();
    }

    int save() {
        snapshot = new ArrayList<>(lines);
        return lines.size();
    }

    int restore() {
        if (snapshot == null) {
            throw new IllegalStateException();
        }
        lines = new ArrayList<>(snapshot);
        history.clear();
        return lines.size();
    }
}
