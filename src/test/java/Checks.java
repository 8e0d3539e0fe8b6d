import java.nio.charset.StandardCharsets;

/** What the tests share: comparing answers with what is due, and telling texts to an object. */
final class Checks {
    interface Call {
        long make();
    }

    private final String name;
    private int made;
    private int wrong;

    Checks(String name) {
        this.name = name;
    }

    void same(String what, long got, long due) {
        made++;
        if (got != due) {
            wrong++;
            System.out.println(name + ": " + what + " answered " + got + ", due is " + due);
        }
    }

    void same(String what, boolean got, boolean due) {
        same(what, got ? 1 : 0, due ? 1 : 0);
    }

    void same(String what, String got, String due) {
        made++;
        if (!got.equals(due)) {
            wrong++;
            System.out.println(name + ": " + what + " answered \"" + got + "\", due is \"" + due + "\"");
        }
    }

    void fails(String what, Class<? extends RuntimeException> due, Call call) {
        made++;
        try {
            long got = call.make();
            wrong++;
            System.out.println(name + ": " + what + " answered " + got + ", due is " + due.getSimpleName());
        } catch (RuntimeException thrown) {
            if (thrown.getClass() != due) {
                wrong++;
                System.out.println(name + ": " + what + " threw " + thrown + ", due is " + due.getSimpleName());
            }
        }
    }

    void badArgument(String what, Call call) {
        fails(what, IllegalArgumentException.class, call);
    }

    void badState(String what, Call call) {
        fails(what, IllegalStateException.class, call);
    }

    void badIndex(String what, Call call) {
        fails(what, IndexOutOfBoundsException.class, call);
    }

    /** The output must be this text, and the call that made it must have told its length. */
    void output(String what, OptimaWorks x, long told, String due) {
        same(what, outputOf(x), due);
        same(what + ", length", told, due.length());
    }

    void finish() {
        System.out.println(name + ": " + made + " checks, " + wrong + " wrong");
        if (wrong != 0 || made == 0) {
            System.exit(1);
        }
    }

    static String outputOf(OptimaWorks x) {
        StringBuilder text = new StringBuilder();
        for (int i = 0; x.letter(i) != OptimaWorks.NONE; i++) {
            text.append((char) x.letter(i));
        }
        return text.toString();
    }

    static void tell(OptimaWorks x, String text) {
        tell(x, text.getBytes(StandardCharsets.ISO_8859_1));
    }

    static void tell(OptimaWorks x, byte[] bytes) {
        for (int start = 0; start < bytes.length; start += 20) {
            int[] word = new int[5];
            int many = Math.min(20, bytes.length - start);
            for (int i = 0; i < many; i++) {
                word[i / 4] |= (bytes[start + i] & 255) << 24 - 8 * (i % 4);
            }
            x.feed(word[0], word[1], word[2], word[3], word[4]);
            x.end(many);
        }
    }

    /** A new object that has read the text. */
    static OptimaWorks reading(String text) {
        OptimaWorks x = new OptimaWorks();
        tell(x, text);
        x.read();
        return x;
    }
}
