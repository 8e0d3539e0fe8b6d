/** Promises 1 to 4, 20 and 21: a new object, feed, end, wipe, letter, about. */
public final class TapeTest {
    private static final int NONE = OptimaWorks.NONE;

    public static void main(String[] args) {
        Checks c = new Checks("TapeTest");
        newObject(c);
        feedAndEnd(c);
        readyBytes(c);
        fullTape(c);
        letters(c);
        about(c);
        c.finish();
    }

    private static void newObject(Checks c) {
        OptimaWorks x = new OptimaWorks();
        c.same("NONE", NONE, -1);
        for (int what = 0; what < 8; what++) {
            c.same("about(" + what + ")", x.about(what), 0);
        }
        c.same("letter(0)", x.letter(0), NONE);
        c.same("fault(0)", x.fault(0), 0);
        c.same("fault(1)", x.fault(1), NONE);
        c.badState("write()", () -> x.write());
        c.badState("solve(false)", () -> x.solve(false) ? 1 : 0);
        c.badState("solve(true)", () -> x.solve(true) ? 1 : 0);
        c.badState("value(0)", () -> x.value(0));
        c.badState("best(0)", () -> x.best(0));
        c.badState("way(0)", () -> x.way(0));
        c.badState("count()", () -> x.count());
        c.badState("counted(0, 0)", () -> x.counted(0, 0));
        c.badState("prove()", () -> x.prove());
        c.badState("multiplier(NONE)", () -> x.multiplier(NONE));
        c.badIndex("variable(0, 0)", () -> x.variable(0, 0));
        c.badIndex("row(0, 0, 0)", () -> x.row(0, 0, 0));
        c.badIndex("goal(0, 0, false)", () -> x.goal(0, 0, false));
        c.same("need(0, 0)", x.need(0, 0), NONE);
        c.same("left(0)", x.left(0), NONE);
        c.same("listing()", x.listing(), 1);
        c.same("reason(0, 0)", x.reason(0, 0), NONE);
        c.same("truth(4)", x.truth(4), 0);
        c.same("unsay()", x.unsay(), false);
        c.same("unarc()", x.unarc(), false);
        c.same("tree()", x.tree(), 0);
    }

    private static void feedAndEnd(Checks c) {
        OptimaWorks x = new OptimaWorks();
        // Bytes of a first, the highest of each first: "set A=1..2;" with a fault behind.
        x.feed(0x73657420, 0x413d312e, 0x2e323b3f, 0, 0);
        c.same("end(11)", x.end(11), 11);
        c.same("read()", x.read(), 0);
        x.feed(0x3f000000, 0, 0, 0, 0);
        c.same("end(1)", x.end(1), 12);
        c.badArgument("read() of ?", () -> x.read());
        c.same("fault's place", x.fault(1), 11);
        c.same("end(-1)", x.end(-1), NONE);
        c.same("end(21)", x.end(21), NONE);
        c.same("end(0)", x.end(0), 12);
        x.wipe();
        c.same("about(0), wiped", x.about(0), 0);
        c.same("end(0), wiped", x.end(0), 0);
        c.same("read() of nothing", x.read(), 0);
        c.same("fault(0)", x.fault(0), 0);
    }

    private static void readyBytes(Checks c) {
        OptimaWorks x = new OptimaWorks();
        // What end() refuses leaves the bytes ready; what it takes leaves bytes 0, which are no word.
        x.feed(0x20202020, 0x20202020, 0x20202020, 0x20202020, 0x20202020);
        c.same("end(99)", x.end(99), NONE);
        c.same("end(20)", x.end(20), 20);
        c.same("read() of blanks", x.read(), 0);
        c.same("end(2), bytes 0", x.end(2), 22);
        c.badArgument("read() of bytes 0", () -> x.read());
        c.same("fault", x.fault(0), 2);
        c.same("place", x.fault(1), 20);
        x.wipe();
        x.feed(0x2020203f, 0, 0, 0, 0);
        c.same("end(0)", x.end(0), 0);
        c.same("end(3) behind end(0)", x.end(3), 3);
        c.badArgument("read(): end(0) took the blanks away", () -> x.read());
        c.same("place", x.fault(1), 0);
        OptimaWorks fresh = new OptimaWorks();
        c.same("end(4) without feed", fresh.end(4), 4);
        c.badArgument("read() of bytes 0", () -> fresh.read());
        c.same("place", fresh.fault(1), 0);
    }

    private static void fullTape(Checks c) {
        OptimaWorks x = new OptimaWorks();
        for (int i = 0; i < 199; i++) {
            x.feed(0x20202020, 0x20202020, 0x20202020, 0x20202020, 0x20202020);
            x.end(20);
        }
        x.feed(0x20202020, 0x20202020, 0x20202020, 0x20202020, 0x203f2020);
        c.same("end(18) up to 3998", x.end(18), 3998);
        x.feed(0x20202020, 0, 0, 0, 0);
        c.same("end(3) beyond 4000", x.end(3), NONE);
        c.same("about(0)", x.about(0), 3998);
        c.same("end(2) up to 4000", x.end(2), 4000);
        c.same("end(1)", x.end(1), NONE);
        c.same("end(0)", x.end(0), 4000);
        c.badArgument("read()", () -> x.read());
        c.same("place", x.fault(1), 3997);
        x.wipe();
        c.same("end(1), wiped", x.end(1), 1);
    }

    private static void letters(Checks c) {
        OptimaWorks x = Checks.reading("var a from 0 to 5; min a;");
        c.same("output is untouched by read()", x.about(1), 0);
        String due = "var x0 from 0 to 5 ;\nmin x0 ;\n";
        c.output("write()", x, x.write(), due);
        c.same("about(1)", x.about(1), due.length());
        c.same("letter(0)", x.letter(0), 'v');
        c.same("letter(20)", x.letter(20), 10);
        c.same("letter(-1)", x.letter(-1), NONE);
        c.same("letter(length)", x.letter(due.length()), NONE);
        c.same("letter(least int)", x.letter(Integer.MIN_VALUE), NONE);
        c.same("letter(greatest int)", x.letter(Integer.MAX_VALUE), NONE);
        x.wipe();
        c.same("the output stays when the tape goes", x.about(1), due.length());
        x.solve(false);
        c.output("value(0)", x, x.value(0), "0");
    }

    private static void about(Checks c) {
        String text = "set s=1..2;var a[s] whole from 0 to 3;var b from -1 to 1;different a;"
            + "row r:a[1]+b<=2 or b=0;row q:b>=0;row p[i in s]:a[i]>=0;min b;max b;";
        OptimaWorks x = new OptimaWorks();
        Checks.tell(x, text);
        x.read();
        int[] due = {text.length(), 0, 3, 4, 2, 1, 32, 9};
        for (int what = 0; what < due.length; what++) {
            c.same("about(" + what + ")", x.about(what), due[what]);
        }
        c.same("about(8)", x.about(8), NONE);
        c.same("about(-1)", x.about(-1), NONE);
        Checks.tell(x, "?");
        c.badArgument("read()", () -> x.read());
        for (int what = 2; what < 8; what++) {
            c.same("about(" + what + ") behind a fault", x.about(what), 0);
        }
        x.wipe();
        x.read();
        c.same("cases of nothing", x.about(6), 1);
        c.same("needs of nothing", x.about(7), 0);
    }
}
