/** Tests of sentences of the document: each of them quotes its words first. */
abstract class Sentences {
    static final Class<UnsupportedOperationException> REFUSED = UnsupportedOperationException.class;
    static final Class<IndexOutOfBoundsException> NO_INDEX = IndexOutOfBoundsException.class;
    static final Class<IllegalArgumentException> WRONG = IllegalArgumentException.class;
    static final Class<java.util.NoSuchElementException> NONE = java.util.NoSuchElementException.class;
    static final Class<IllegalStateException> NO_STATE = IllegalStateException.class;
    static final Class<ArithmeticException> NO_NUMBER = ArithmeticException.class;
    static final int LEAST = Integer.MIN_VALUE;
    static final int MOST = Integer.MAX_VALUE;

    private final Check check;
    private final Document document;
    private String about = "";

    Sentences(Check check, Document document) {
        this.check = check;
        this.document = document;
    }

    abstract void test();

    /** An exception that no test waits for ends the tests of this class, and is told with the sentence. */
    void run() {
        try {
            test();
        } catch (RuntimeException thrown) {
            is("nothing else is thrown", thrown.toString(), "");
        }
    }

    void whatItIs(String words) {
        says(Document.WHAT_IT_IS, words);
    }

    void terms(String words) {
        says(Document.TERMS, words);
    }

    void promise(int number, String words) {
        says(Integer.toString(number), words);
    }

    private void says(String section, String words) {
        about = section + ", \"" + words + "\": ";
        check.is(about + "the document says so", document.says(section, words), true);
    }

    void is(String what, long got, long due) {
        check.is(about + what, got, due);
    }

    void is(String what, double got, double due) {
        check.is(about + what, got, due);
    }

    void is(String what, boolean got, boolean due) {
        check.is(about + what, got, due);
    }

    void is(String what, String got, String due) {
        check.is(about + what, got, due);
    }

    void refuses(String what, Class<? extends RuntimeException> due, Runnable call) {
        check.refuses(about + what, due, call);
    }

    /** The call must be refused for this reason with these causes, as in "10:0 2:8". */
    void refusedFor(String reasons, HymnEndings book, Runnable call) {
        refuses("refused for " + reasons, REFUSED, call);
        is("the reasons", Books.reasons(book), reasons);
    }

    /** The commands, which are typed first, must have this fault position; -1 if they must be carried out. */
    void faultOf(String text, int due, HymnEndings book) {
        if (due < 0) {
            is(text + " is carried out", Books.command(book, text) > 0, true);
        } else {
            refuses(text, WRONG, () -> Books.command(book, text));
        }
        is("fault position of " + text, book.faultPosition(), due);
    }
}
