/** The edges of promises 1 to 4, 20 and 21, a sentence of the document at a time. */
public final class TapeEdgesTest {
    private static final int NONE = OptimaWorks.NONE;
    private static final int BLANKS = 0x20202020;
    private static final Checks C = new Checks("TapeEdgesTest");

    public static void main(String[] args) {
        newObjects();
        bytesOfTape();
        lengthOfTape();
        bytesReady();
        readyAtFirst();
        ends();
        wipes();
        letters();
        output();
        abouts();
        calls();
        C.finish();
    }

    private static void feedBlanks(OptimaWorks x) {
        x.feed(BLANKS, BLANKS, BLANKS, BLANKS, BLANKS);
    }

    /** An object with so many blanks on its tape. */
    private static OptimaWorks blanks(int many) {
        OptimaWorks x = new OptimaWorks();
        for (int left = many; left > 0; left -= 20) {
            feedBlanks(x);
            x.end(Math.min(20, left));
        }
        return x;
    }

    private static void fault(OptimaWorks x, String what, int kind, int place) {
        C.badArgument("read(), " + what, () -> x.read());
        C.same("fault(0), " + what, x.fault(0), kind);
        C.same("fault(1), " + what, x.fault(1), place);
    }

    private static void newObjects() {
        C.sentence("Nothing on the tape, no output, no model, nothing on the desks.");
        OptimaWorks x = new OptimaWorks();
        C.same("tape", x.about(0), 0);
        C.same("output", x.about(1), 0);
        C.same("letter(0)", x.letter(0), NONE);
        C.badState("write()", () -> x.write());
        C.same("left(0)", x.left(0), NONE);
        C.badArgument("rule(0, 1, 0, 0)", () -> x.rule(0, 1, 0, 0));
        C.same("clauses", x.truth(4), 0);
        C.same("unsay()", x.unsay(), false);
        C.same("unarc()", x.unarc(), false);
        C.same("first holder", x.holder(1), 0);
        C.same("first clause", x.clause(1, 0, 1), 0);
        C.same("first arc", x.arc(0, 1, 1, 1), 0);
        OptimaWorks y = new OptimaWorks();
        C.same("read() of nothing is a model", y.read(), 0);
        C.same("write() of it", y.write(), 0);
        C.sentence("both are empty at first");
        C.same("tape", new OptimaWorks().about(0), 0);
        C.same("output", new OptimaWorks().about(1), 0);
        C.same("letter(0) ahead of an output", new OptimaWorks().letter(0), NONE);
    }

    private static void bytesOfTape() {
        C.sentence("THE TAPE has bytes (0 .. 255)");
        String signs = "=<>:;,[]{}()+-*/";
        for (int b = 0; b < 256; b++) {
            OptimaWorks x = new OptimaWorks();
            x.feed(b << 24, 0, 0, 0, 0);
            C.same("end(1), byte " + b, x.end(1), 1);
            boolean letter = b >= 'A' && b <= 'Z' || b >= 'a' && b <= 'z';
            if (b == 9 || b == 10 || b == 13 || b == 32 || b == '#') {
                C.same("read(), byte " + b, x.read(), 0);
            } else {
                boolean word = letter || b >= '0' && b <= '9' || signs.indexOf(b) >= 0;
                fault(x, "byte " + b, word ? 1 : 2, 0);
            }
            OptimaWorks remark = new OptimaWorks();
            remark.feed('#' << 24 | b << 16 | '?' << 8 | 10, 0, 0, 0, 0);
            remark.end(4);
            if (b == 10) {
                fault(remark, "10 ends the remark", 2, 2);
            } else {
                C.same("read(), remark with byte " + b, remark.read(), 0);
            }
        }
    }

    private static void lengthOfTape() {
        C.sentence("at most 4000");
        OptimaWorks x = blanks(3980);
        feedBlanks(x);
        C.same("end(20) up to 4000", x.end(20), 4000);
        C.same("about(0)", x.about(0), 4000);
        C.same("read() of 4000 blanks", x.read(), 0);
        x.feed('?' << 24, 0, 0, 0, 0);
        C.same("end(1) beyond 4000", x.end(1), NONE);
        C.same("about(0), nothing came", x.about(0), 4000);
        C.same("read(), nothing came", x.read(), 0);
        OptimaWorks last = blanks(3999);
        last.feed('?' << 24, 0, 0, 0, 0);
        C.same("end(1) at 3999", last.end(1), 4000);
        fault(last, "the last byte", 2, 3999);
        OptimaWorks y = blanks(3981);
        feedBlanks(y);
        C.same("end(20) at 3981", y.end(20), NONE);
        C.same("end(19) at 3981", y.end(19), 4000);
    }

    private static void bytesReady() {
        C.sentence("Puts twenty bytes ready, those of a first, the highest of each first.");
        for (int i = 0; i < 20; i++) {
            int[] word = {BLANKS, BLANKS, BLANKS, BLANKS, BLANKS};
            int move = 24 - 8 * (i % 4);
            word[i / 4] = BLANKS & ~(255 << move) | 0xfe << move;
            OptimaWorks x = new OptimaWorks();
            x.feed(word[0], word[1], word[2], word[3], word[4]);
            C.same("end(20)", x.end(20), 20);
            fault(x, "byte " + i, 2, i);
            OptimaWorks y = new OptimaWorks();
            y.feed(word[0], word[1], word[2], word[3], word[4]);
            C.same("end(" + i + ")", y.end(i), i);
            C.same("read(), byte " + i + " is behind the first " + i, y.read(), 0);
        }
        OptimaWorks twice = new OptimaWorks();
        twice.feed(-1, -1, -1, -1, -1);
        feedBlanks(twice);
        twice.end(20);
        C.same("read(): a second feed() is instead of the first", twice.read(), 0);
    }

    private static void readyAtFirst() {
        C.sentence("(They are 0 at first, and behind each end() that answers a number.)");
        OptimaWorks x = new OptimaWorks();
        C.same("end(20) without feed()", x.end(20), 20);
        fault(x, "bytes 0 at first", 2, 0);
        for (int n = 0; n <= 20; n++) {
            OptimaWorks y = new OptimaWorks();
            feedBlanks(y);
            y.end(n);
            C.same("end(20) behind end(" + n + ")", y.end(20), n + 20);
            fault(y, "bytes 0 behind end(" + n + ")", 2, n);
        }
        int[] refused = {-1, 21, Integer.MIN_VALUE, Integer.MAX_VALUE};
        for (int n : refused) {
            OptimaWorks y = new OptimaWorks();
            feedBlanks(y);
            C.same("end(" + n + ")", y.end(n), NONE);
            y.end(20);
            C.same("read(): the bytes stay behind end(" + n + ")", y.read(), 0);
        }
        OptimaWorks full = blanks(4000);
        feedBlanks(full);
        C.same("end(20) on a full tape", full.end(20), NONE);
        full.wipe();
        full.end(20);
        C.same("read(): the bytes stay behind end(20) on a full tape", full.read(), 0);
    }

    private static void ends() {
        C.sentence("The first n of the bytes that are ready come to the tape: how many it has.");
        OptimaWorks x = new OptimaWorks();
        int length = 0;
        for (int n = 0; n <= 20; n++) {
            length += n;
            feedBlanks(x);
            C.same("end(" + n + ")", x.end(n), length);
            C.same("about(0)", x.about(0), length);
        }
        C.sentence("NONE, and nothing comes, if n is not 0 .. 20, or it would have more than 4000.");
        int[] refused = {-1, 21, 24, Integer.MIN_VALUE, Integer.MAX_VALUE, Integer.MAX_VALUE - length};
        for (int n : refused) {
            feedBlanks(x);
            C.same("end(" + n + ")", x.end(n), NONE);
            C.same("about(0)", x.about(0), length);
        }
        for (int n = 0; n <= 20; n++) {
            OptimaWorks y = blanks(4000 - n);
            C.same("end(" + n + ") up to 4000", y.end(n), 4000);
            OptimaWorks z = blanks(4001 - Math.max(1, n));
            C.same("end(" + n + ") up to 4001", z.end(n), n == 0 ? 4000 : NONE);
        }
    }

    private static void wipes() {
        C.sentence("The tape is empty.");
        OptimaWorks x = Checks.reading("var a from 0 to 1;min a;");
        x.write();
        int output = x.about(1);
        feedBlanks(x);
        x.wipe();
        C.same("about(0)", x.about(0), 0);
        C.same("the output stays", x.about(1), output);
        C.same("the model stays", x.about(2), 1);
        C.same("end(20): what is ready stays", x.end(20), 20);
        C.same("read() of blanks", x.read(), 0);
        OptimaWorks y = new OptimaWorks();
        Checks.tell(y, "?");
        fault(y, "?", 2, 0);
        y.wipe();
        C.same("the fault stays", y.fault(0), 2);
        C.same("its place stays", y.fault(1), 0);
        y.wipe();
        C.same("wipe() of an empty tape", y.about(0), 0);
        OptimaWorks full = blanks(4000);
        full.wipe();
        feedBlanks(full);
        C.same("end(20) behind a full tape", full.end(20), 20);
        // What was on the tape does not go on behind what is there now, whatever the word.
        String[][] pairs = {{"min 123456", "min 1"}, {"min sum", "min s"}, {"min 1<=2", "min 1<"}, {"set a=1..2", "set a=1."}, {"min 1#", "min 1"},
            {"min 1;", "min 1"}, {"min 1      ;", "min 1"}, {"minimal", "min"}, {"different", "differen"}, {"min 9999999", "min 999999"}};
        int[][] due = {{1, 5}, {3, 4}, {1, 5}, {2, 7}, {1, 5}, {1, 5}, {1, 5}, {1, 3}, {1, 0}, {1, 10}};
        for (int i = 0; i < pairs.length; i++) {
            OptimaWorks z = new OptimaWorks();
            Checks.tell(z, pairs[i][0]);
            z.wipe();
            Checks.tell(z, pairs[i][1]);
            fault(z, pairs[i][1] + " behind " + pairs[i][0], due[i][0], due[i][1]);
        }
    }

    private static void letters() {
        C.sentence("Byte i of the output; NONE if there is none.");
        OptimaWorks x = Checks.reading("var a from -12 to 1;min a;");
        x.solve(false);
        C.same("value(0)", x.value(0), 3);
        int[][] due = {{-1, NONE}, {0, '-'}, {1, '1'}, {2, '2'}, {3, NONE}, {Integer.MIN_VALUE, NONE}, {Integer.MAX_VALUE, NONE}};
        for (int[] d : due) {
            C.same("letter(" + d[0] + ")", x.letter(d[0]), d[1]);
        }
        x.write();
        x.best(0);
        C.same("letter(3) behind a longer output", x.letter(3), NONE);
        C.same("about(1)", x.about(1), 3);
    }

    private static void output() {
        C.sentence("THE OUTPUT at most 30000");
        // As long as a model can be written: as many numbers of two digits, ways and goals as there may be.
        StringBuilder way = new StringBuilder();
        StringBuilder goal = new StringBuilder();
        StringBuilder wayDue = new StringBuilder();
        StringBuilder goalDue = new StringBuilder();
        StringBuilder due = new StringBuilder();
        for (int k = 0; k < 8; k++) {
            int number = 91 + k;
            way.append("-").append(number).append("*v[").append(k).append("]");
            goal.append("-").append(number - 1).append("/").append(number).append("*v[").append(k).append("]");
            wayDue.append(" - ").append(number).append(" * x").append(k);
            goalDue.append(" - ").append(number - 1).append("/").append(number).append(" * x").append(k);
            due.append("var x").append(k).append(" from -999 to -999 ;\n");
        }
        way.append("<=-99999");
        wayDue.append(" <= -99999");
        for (int r = 0; r < 12; r++) {
            due.append("row r").append(r).append(" :").append(wayDue).append(r < 6 ? " or" + wayDue : "").append(" ;\n");
        }
        due.append(("max" + goalDue + " - 9998/9999 ;\n").repeat(3));
        OptimaWorks x = Checks.reading("set s=0..7;set t=1..6;var v[s]from -999 to -999;row r[i in t]:" + way + " or " + way
            + ";row q[i in t]:" + way + ";" + ("max " + goal + "-9998/9999;").repeat(3));
        C.same("write()", x.write(), due.length());
        C.same("about(1)", x.about(1), due.length());
        C.same("the output", Checks.outputOf(x), due.toString());
    }

    private static void calls() {
        C.sentence("An object is used for at most 512 calls after it has been made;");
        OptimaWorks x = new OptimaWorks();
        for (int call = 2; call <= 400; call += 2) {
            feedBlanks(x);
            C.same("end(20), call " + call, x.end(20), call * 10);
        }
        for (int call = 401; call < 512; call++) {
            C.same("end(20), call " + call, x.end(20), NONE);
        }
        C.same("read(), call 512", x.read(), 0);
        OptimaWorks y = new OptimaWorks();
        y.holder(15);
        for (int call = 2; call < 512; call++) {
            C.same("left(0), call " + call, y.left(0), 15);
        }
        C.same("holder(), call 512", y.holder(1), 1);
    }

    private static void abouts() {
        C.sentence("what 0 .. 7; NONE for another what.");
        OptimaWorks x = Checks.reading("var a from 0 to 1;");
        C.same("about(-1)", x.about(-1), NONE);
        C.same("about(0)", x.about(0), 18);
        C.same("about(7)", x.about(7), 2);
        C.same("about(8)", x.about(8), NONE);
        C.same("about(least)", x.about(Integer.MIN_VALUE), NONE);
        C.same("about(greatest)", x.about(Integer.MAX_VALUE), NONE);
        C.sentence("Of the tape bytes, of the output bytes, variables, rows, goals, differents, cases, needs (0 without a model)");
        String text = "set s=1..2;var a[s]whole from 0 to 1;var b from 0 to 1;row r:b<=1 or b>=0;row q[i in s]:a[i]<=1;"
            + "different a;different a;different a;different a;min b;max b;min a[1];";
        OptimaWorks y = Checks.reading(text);
        C.same("write()", y.write(), y.about(1));
        int[] due = {text.length(), y.about(1), 3, 3, 3, 4, 8, 8};
        for (int what = 0; what < 8; what++) {
            C.same("about(" + what + ")", y.about(what), due[what]);
        }
        Checks.tell(y, ";");
        fault(y, "a ; too many", 1, text.length());
        C.same("about(0) behind a fault", y.about(0), text.length() + 1);
        C.same("about(1) behind a fault", y.about(1), due[1]);
        for (int what = 2; what < 8; what++) {
            C.same("about(" + what + ") behind a fault", y.about(what), 0);
            C.same("about(" + what + ") of a new object", new OptimaWorks().about(what), 0);
            C.same("about(" + what + ") of an empty model", Checks.reading("").about(what), what == 6 ? 1 : 0);
        }
    }
}
