import java.io.IOException;
import java.io.UncheckedIOException;
import java.nio.charset.StandardCharsets;
import java.nio.file.Files;
import java.nio.file.Path;

/** What the tests share: comparing answers with what is due, and telling texts to an object. */
final class Checks {
    interface Call {
        long make();
    }

    private static final Path DOCUMENT = Path.of("../shared/DOC.md");

    private final String name;
    private String document;
    private String sentence = "";
    private int madeOfSentence;
    private int made;
    private int wrong;

    Checks(String name) {
        this.name = name;
    }

    /**
     * The document's words that the checks from here on are about: they are told with what is wrong.
     * They must stand in the document, and the ones before them must have been checked.
     */
    void sentence(String words) {
        endSentence();
        sentence = words;
        if (document == null) {
            document = shrunk(readDocument());
        }
        if (!document.contains(shrunk(words))) {
            wrong("the document has no such words", "");
        }
    }

    private void endSentence() {
        if (!sentence.isEmpty() && madeOfSentence == 0) {
            wrong("nothing was checked", "");
        }
        madeOfSentence = 0;
    }

    private static String readDocument() {
        try {
            return Files.readString(DOCUMENT);
        } catch (IOException thrown) {
            throw new UncheckedIOException(thrown);
        }
    }

    private static String shrunk(String text) {
        return text.replaceAll("\\s+", " ");
    }

    private void count() {
        made++;
        madeOfSentence++;
    }

    private void wrong(String what, String told) {
        wrong++;
        String about = sentence.isEmpty() ? "" : " [" + sentence + "]";
        System.out.println(name + about + ": " + what + told);
    }

    void same(String what, long got, long due) {
        count();
        if (got != due) {
            wrong(what, " answered " + got + ", due is " + due);
        }
    }

    void same(String what, boolean got, boolean due) {
        same(what, got ? 1 : 0, due ? 1 : 0);
    }

    void same(String what, String got, String due) {
        count();
        if (!got.equals(due)) {
            wrong(what, " answered \"" + got + "\", due is \"" + due + "\"");
        }
    }

    void fails(String what, Class<? extends RuntimeException> due, Call call) {
        count();
        try {
            wrong(what, " answered " + call.make() + ", due is " + due.getSimpleName());
        } catch (RuntimeException thrown) {
            if (thrown.getClass() != due) {
                wrong(what, " threw " + thrown + ", due is " + due.getSimpleName());
            }
        }
    }

    void badArgument(String what, Call call) {
        fails(what, IllegalArgumentException.class, call);
    }

    void badState(String what, Call call) {
        fails(what, IllegalStateException.class, call);
    }

    void badIndex(String what, Call call) {
        fails(what, IndexOutOfBoundsException.class, call);
    }

    /** The output must be this text, and the call that made it must have told its length. */
    void output(String what, OptimaWorks x, long told, String due) {
        same(what, outputOf(x), due);
        same(what + ", length", told, due.length());
    }

    void finish() {
        endSentence();
        System.out.println(name + ": " + made + " checks, " + wrong + " wrong");
        if (wrong != 0 || made == 0) {
            System.exit(1);
        }
    }

    static String outputOf(OptimaWorks x) {
        StringBuilder text = new StringBuilder();
        for (int i = 0; x.letter(i) != OptimaWorks.NONE; i++) {
            text.append((char) x.letter(i));
        }
        return text.toString();
    }

    static void tell(OptimaWorks x, String text) {
        tell(x, text.getBytes(StandardCharsets.ISO_8859_1));
    }

    static void tell(OptimaWorks x, byte[] bytes) {
        for (int start = 0; start < bytes.length; start += 20) {
            int[] word = new int[5];
            int many = Math.min(20, bytes.length - start);
            for (int i = 0; i < many; i++) {
                word[i / 4] |= (bytes[start + i] & 255) << 24 - 8 * (i % 4);
            }
            x.feed(word[0], word[1], word[2], word[3], word[4]);
            x.end(many);
        }
    }

    /** A new object that has read the text. */
    static OptimaWorks reading(String text) {
        OptimaWorks x = new OptimaWorks();
        tell(x, text);
        x.read();
        return x;
    }
}
