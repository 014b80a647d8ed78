import java.io.IOException;
import java.nio.file.Files;
import java.nio.file.Path;
import java.util.ArrayList;
import java.util.List;

/** Counts what tests found; main methods end with finish(). */
final class Check {
    interface Call {
        void make();
    }

    private static final Path DOCUMENT = Path.of("../shared/DOC.md");

    private final String test;
    private final List<String> sentences = new ArrayList<>();
    private String current = "";
    private int right = 0;
    private int wrong = 0;

    Check(String test) {
        this.test = test;
    }

    /** A test of its own for what the document says in these words; they are told with all that is wrong in it. */
    void sentence(String words, Call itsTest) {
        int before = right + wrong;
        sentences.add(words);
        current = "\"" + words + "\": ";
        try {
            itsTest.make();
        } catch (RuntimeException thrown) {
            holds("that nothing but what is asked for is thrown (" + thrown + ")", false);
        }
        holds("that something is tested", right + wrong > before);
        current = "";
    }

    void same(String what, long got, long want) {
        note(got == want, what + " answered " + got + ", due is " + want);
    }

    void holds(String what, boolean got) {
        note(got, what + " does not hold");
    }

    /** The very class counts: a class below it may be one that the machine throws. */
    void illegalArgument(String what, Call call) {
        throwsKind(what, call, 1);
    }

    void illegalState(String what, Call call) {
        throwsKind(what, call, 2);
    }

    void throwsNothing(String what, Call call) {
        throwsKind(what, call, 0);
    }

    private void throwsKind(String what, Call call, int kind) {
        same(what + " throws (1 illegal argument, 2 illegal state, 3 another, 0 nothing)", thrownBy(call), kind);
    }

    static int thrownBy(Call call) {
        try {
            call.make();
            return 0;
        } catch (Throwable thrown) {
            return kindOf(thrown);
        }
    }

    static int kindOf(Throwable thrown) {
        if (thrown.getClass() == IllegalArgumentException.class) {
            return 1;
        }
        return thrown.getClass() == IllegalStateException.class ? 2 : 3;
    }

    private void note(boolean good, String text) {
        if (good) {
            right++;
        } else {
            wrong++;
            System.out.println(test + ": " + current + text);
        }
    }

    /** A sentence that the document has no more, or never had, needs another test. */
    private void findSentences() {
        try {
            String document = Files.readString(DOCUMENT).replaceAll("\\s+", " ");
            for (String words : sentences) {
                holds("that the document says \"" + words + "\"", document.contains(words));
            }
        } catch (IOException unread) {
            holds("that " + DOCUMENT + " can be read", false);
        }
    }

    void finish() {
        if (!sentences.isEmpty()) {
            findSentences();
            System.out.println(test + ": " + sentences.size() + " sentences");
        }
        System.out.println(test + ": " + right + " right, " + wrong + " wrong");
        if (wrong != 0) {
            System.exit(1);
        }
    }
}
