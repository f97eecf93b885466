import java.util.Random;
import java.util.function.Supplier;

/** Runs of 512 calls by a fixed seed, each answer or exception compared with that of the model. */
public final class ModelTest {
    private static final Check CHECK = new Check("ModelTest");
    private static final int RUNS = 400;
    private static final int CALLS = 512;
    private static final char[] ODD_CHARACTERS =
            {'A', ';', '0', '`', '{', ' ', '\0', '\uffff', '+', '9', '/', ':', '-'};

    private final Random random;
    private final int letters;
    private final HymnEndings book = new HymnEndings();
    private final Model model = new Model();
    private int calls;

    private ModelTest(int seed) {
        random = new Random(seed);
        letters = 1 + random.nextInt(seed % 4 == 0 ? 26 : 3);
    }

    public static void main(String[] args) {
        for (int seed = 0; seed < RUNS; seed++) {
            new ModelTest(seed).run(seed);
        }
        CHECK.finish();
    }

    private void run(int seed) {
        while (calls < CALLS) {
            String name = step();
            if (name != null) {
                CHECK.is("run " + seed + " up to call " + calls, name, "");
                return;
            }
        }
        CHECK.is("run " + seed, "", "");
    }

    /** What differs, or null. */
    private String differs(String name, Supplier<?> got, Supplier<?> due) {
        calls++;
        String answer = Check.told(got);
        String dueAnswer = Check.told(due);
        return answer.equals(dueAnswer) ? null : name + " answered " + answer + ", due is " + dueAnswer;
    }

    private int pick(int bound) {
        return random.nextInt(bound);
    }

    /** Mostly a line that there is. */
    private int line() {
        return pick(12) == 0 ? pick(14) - 3 : pick(Math.max(1, model.account(0)));
    }

    private int place(int line) {
        boolean isThere = line >= 0 && line < model.account(0);
        return pick(12) == 0 || !isThere ? pick(14) - 2 : pick(model.lineOf(line, 0));
    }

    private int rank() {
        return pick(12) == 0 ? pick(90) - 4 : pick(Math.max(1, model.account(1)));
    }

    private char smallLetter() {
        return (char) ('a' + pick(letters));
    }

    private char sign() {
        return pick(10) == 0 ? ODD_CHARACTERS[pick(ODD_CHARACTERS.length)] : smallLetter();
    }

    private String word() {
        StringBuilder word = new StringBuilder();
        int length = 1 + pick(pick(4) == 0 ? 11 : 5);
        while (word.length() < length) {
            word.append(smallLetter());
        }
        return word.toString();
    }

    private String command() {
        int line = Math.max(0, Math.min(9, line()));
        switch (pick(8)) {
            case 0:
            case 1:
                return "+" + word();
            case 2:
                return "-" + line;
            case 3:
                return "=" + line + Math.max(0, Math.min(9, place(line))) + smallLetter();
            case 4:
                return "x" + line + Math.max(0, Math.min(9, line()));
            case 5:
                return "j" + line + Math.max(0, Math.min(9, line()));
            case 6:
                return "t" + line;
            default:
                return "" + "+-=xjt;0a".charAt(pick(9)) + (pick(2) == 0 ? line : sign());
        }
    }

    private String text() {
        StringBuilder text = new StringBuilder(command());
        for (int more = pick(4); more > 0; more--) {
            text.append(pick(40) == 0 ? "" : ";").append(command());
        }
        if (pick(8) == 0) {
            text.setCharAt(pick(text.length()), sign());
        }
        if (pick(12) == 0) {
            text.setLength(pick(text.length() + 1));
        }
        return text.toString();
    }

    private String type(String text) {
        for (char character : text.toCharArray()) {
            String wrong = differs("append", () -> book.append(character), () -> model.append(character));
            if (wrong != null) {
                return wrong;
            }
        }
        return null;
    }

    private String step() {
        switch (pick(6)) {
            case 0:
                return changeStep();
            case 1:
                return textStep();
            case 2:
                return lineStep();
            case 3:
                return orderStep();
            case 4:
                return wordStep();
            default:
                return stateStep();
        }
    }

    private String changeStep() {
        int line = line();
        int other = line();
        int place = place(line);
        char letter = sign();
        switch (pick(6)) {
            case 0:
                return differs("cut", () -> book.cut(line), () -> model.cut(line));
            case 1:
                return differs("swap", () -> book.swap(line, other), () -> model.swap(line, other));
            case 2:
                return differs("join", () -> book.join(line, other), () -> model.join(line, other));
            case 3:
                return differs("turn", () -> book.turn(line), () -> model.turn(line));
            default:
                return differs("change", () -> book.change(line, place, letter),
                        () -> model.change(line, place, letter));
        }
    }

    private String textStep() {
        boolean isCommand = pick(2) == 0;
        String wrong = type(isCommand ? text() : pick(12) == 0 ? word() + sign() : word());
        if (wrong != null || pick(20) == 0) {
            return wrong;
        }
        return isCommand ? differs("commands", book::commands, model::commands) : differs("add", book::add, model::add);
    }

    private String lineStep() {
        int line = line();
        int other = line();
        int what = pick(7) - 1;
        switch (pick(6)) {
            case 0:
                return differs("shared", () -> book.shared(line, other), () -> model.shared(line, other));
            case 1:
                return differs("alone", () -> book.alone(line), () -> model.alone(line));
            case 2:
                return differs("alonePlace", () -> book.alonePlace(line), () -> model.alonePlace(line));
            case 3:
                return differs("isTurned", () -> book.isTurned(line, other), () -> model.isTurned(line, other));
            default:
                return differs("lineOf", () -> book.lineOf(line, what), () -> model.lineOf(line, what));
        }
    }

    private String orderStep() {
        int line = line();
        int place = place(line);
        int other = line();
        int otherPlace = place(other);
        int rank = rank();
        boolean isPlace = pick(2) == 0;
        switch (pick(14)) {
            case 0:
                return differs("letter", () -> book.letter(line, place), () -> model.letter(line, place));
            case 1:
                return differs("ending", () -> book.ending(rank, isPlace), () -> model.ending(rank, isPlace));
            case 2:
                return differs("rank", () -> book.rank(line, place), () -> model.rank(line, place));
            case 3:
                return differs("rankAgain", () -> book.rankAgain(line, place), () -> model.rank(line, place));
            case 4:
                return differs("common", () -> book.common(rank), () -> model.common(rank));
            case 5:
                return differs("commonOf", () -> book.commonOf(line, place, other, otherPlace),
                        () -> model.commonOf(line, place, other, otherPlace));
            case 6:
                return differs("longest", book::longest, model::longest);
            case 7:
                return differs("longestRank", book::longestRank, model::longestRank);
            case 8:
                return differs("pieces", book::pieces, model::pieces);
            case 9:
                return differs("piecesAgain", book::piecesAgain, model::pieces);
            case 10:
                return differs("kinds", book::kinds, model::kinds);
            case 11:
                return differs("meanLetters", book::meanLetters, model::meanLetters);
            case 12:
                return differs("repeatShare", book::repeatShare, model::repeatShare);
            default:
                return differs("write", () -> book.write(rank), () -> model.write(rank));
        }
    }

    private String wordStep() {
        String wrong = pick(3) == 0 ? type("" + sign()) : null;
        if (wrong != null) {
            return wrong;
        }
        switch (pick(5)) {
            case 0:
                return differs("finds", book::finds, model::finds);
            case 1:
                return differs("findsAgain", book::findsAgain, model::finds);
            case 2:
                return differs("firstFind", book::firstFind, model::firstFind);
            case 3:
                return differs("isLine", book::isLine, model::isLine);
            default:
                return pick(4) == 0 ? differs("add", book::add, model::add) : null;
        }
    }

    private String stateStep() {
        int number = pick(9) - 1;
        int depth = pick(5) - 1;
        int index = pick(16) - 1;
        boolean isDetail = pick(2) == 0;
        switch (pick(9)) {
            case 0:
                return pick(3) == 0 ? differs("undo", book::undo, model::undo) : null;
            case 1:
                return differs("save", book::save, model::save);
            case 2:
                return pick(4) == 0 ? differs("restore", book::restore, model::restore) : null;
            case 3:
                return differs("faultPosition", book::faultPosition, model::faultPosition);
            case 4:
                return differs("writeLongest", book::writeLongest, model::writeLongest);
            case 5:
                return differs("character", () -> book.character(index), () -> model.character(index));
            case 6:
                return differs("account", () -> book.account(number), () -> model.account(number));
            default:
                return differs("reason", () -> book.reason(depth, isDetail), () -> model.reason(depth, isDetail));
        }
    }
}
