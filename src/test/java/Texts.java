/** Reads texts on one object after the other: those that have a fault, and those that have none. */
final class Texts {
    private final Checks c;
    private OptimaWorks x = new OptimaWorks();
    private int calls;

    Texts(Checks c) {
        this.c = c;
    }

    /** The text has its fault where the mark ^ stands; without a mark at its end. */
    void fault(int kind, String marked) {
        int place = marked.indexOf('^');
        String text = marked.replace("^", "");
        fault(kind, place < 0 ? text.length() : place, text);
    }

    void fault(int kind, int place, String text) {
        String name = shown(text);
        OptimaWorks y = told(text);
        c.badArgument("read() of " + name, () -> y.read());
        c.same("fault(0) of " + name, y.fault(0), kind);
        c.same("fault(1) of " + name, y.fault(1), place);
    }

    void fine(String text, int variables) {
        String name = shown(text);
        OptimaWorks y = told(text);
        try {
            c.same("read() of " + name, y.read(), variables);
        } catch (IllegalArgumentException thrown) {
            c.same("fault of " + name + " at " + y.fault(1), y.fault(0), 0);
        }
        c.same("fault(0) of " + name, y.fault(0), 0);
        c.same("fault(1) of " + name, y.fault(1), OptimaWorks.NONE);
    }

    /** The first text is fine, the second one has the fault: the two sides of an edge. */
    void edge(String fine, int kind, String marked) {
        fineAnyway(fine);
        fault(kind, marked);
    }

    private void fineAnyway(String text) {
        OptimaWorks y = told(text);
        try {
            y.read();
        } catch (IllegalArgumentException thrown) {
            c.same("fault of " + shown(text) + " at " + y.fault(1), y.fault(0), 0);
        }
        c.same("fault(0) of " + shown(text), y.fault(0), 0);
    }

    /** An object reads several texts, for what it read before must not count, but is called 512 times at most. */
    private OptimaWorks told(String text) {
        int more = 2 * (text.length() / 20 + 1) + 6;
        if (calls + more > 512) {
            x = new OptimaWorks();
            calls = 0;
        }
        calls += more;
        x.wipe();
        Checks.tell(x, text);
        return x;
    }

    static String shown(String text) {
        return text.length() <= 120 ? text : text.substring(0, 50) + " .. " + text.substring(text.length() - 60);
    }
}
