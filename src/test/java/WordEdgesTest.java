/** The edges of WORDS, a sentence of the document at a time. */
public final class WordEdgesTest {
    private static final Checks C = new Checks("WordEdgesTest");
    private static final Texts T = new Texts(C);
    private static final String[] KEYWORDS = {"set", "param", "var", "whole", "from", "to", "row", "or", "if", "and", "not", "in", "sum",
        "different", "min", "max"};

    public static void main(String[] args) {
        between();
        remarks();
        names();
        keywords();
        numbers();
        signs();
        longest();
        noWords();
        tapeEnd();
        C.finish();
    }

    private static void between() {
        C.sentence("Bytes 9, 10, 13, 32 may stand between words");
        for (int b = 0; b < 256; b++) {
            String text = "var a" + (char) b + "from 0 to 1;";
            if (b == 9 || b == 10 || b == 13 || b == 32) {
                T.fine(text, 1);
                T.fine(" var a from 0 to 1;".replace(' ', (char) b), 1);
                T.fine("var a from 0 to 1 ; ".replace(" ", "" + (char) b + (char) b), 1);
            } else if (b == '[') {
                T.fault(1, "var a[^from 0 to 1;");
            } else if (b != '#' && !isLetterOrDigit(b)) {
                T.fault("=<>:;,[]{}()+-*/".indexOf(b) >= 0 ? 1 : 2, 5, text);
            }
        }
        T.fine("set a=1..2;param p[a]=1,2;var x from 0 to 1;row r[i in a]if i<2:x<=p[i]or x>=1;", 1);
        T.fine(" set  a =  1 ..  2 ;  param p [ a ] = 1 , 2 ; min - 1 ; ", 0);
    }

    private static boolean isLetterOrDigit(int b) {
        return b < 128 && Character.isLetterOrDigit(b);
    }

    private static void remarks() {
        C.sentence("and # with what follows up to the next 10");
        T.fine("#", 0);
        T.fine("#\n", 0);
        T.fine("#?", 0);
        T.fine("##?\n#?", 0);
        T.fine("var a#from 9 to ?\r ; \n from 0 to 1;#", 1);
        T.fine("var#\na#\nfrom#\n0#\nto#\n1#\n;#\n", 1);
        T.fault(2, "#\n^?");
        T.fault(2, "# ?\n#\n ^?");
        T.fault(1, "#\r\n^;");
        T.fault(1, "# \n\n ^1");
        T.fine("#\r;?", 0);
        T.fault(1, "var a # from 0 to 1 ;");
        T.fault(1, "set a=1#\n^2..3;");
        T.fault(2, "set a=1^.#\n.2;");
    }

    private static void names() {
        C.sentence("NAME: a letter (A .. Z, a .. z), then letters and digits, at most 8 in all");
        for (char b : "AZaz".toCharArray()) {
            T.fine("set " + b + "=1..2;param p[" + b + "]=1,2;", 0);
            T.fine("set a" + b + "=1..2;param p[a" + b + "]=1,2;", 0);
        }
        for (char b : "@`_$.!~\177\300\344".toCharArray()) {
            T.fault(2, "set ^" + b + "=1..2;");
            T.fault(2, "set a^" + b + "=1..2;");
        }
        for (char b : "09".toCharArray()) {
            T.fault(1, "set ^" + b + "=1..2;");
            T.fine("set a" + b + "=1..2;param p[a" + b + "]=1,2;", 0);
        }
        for (char b : "/:[{".toCharArray()) {
            T.fault(1, "set ^" + b + "=1..2;");
            T.fault(1, "set a^" + b + "=1..2;");
        }
        T.fine("set abcdefgh=1..2;param A2345678[abcdefgh]=1,2;min A2345678[1];", 0);
        T.fault(2, "set ^abcdefghi=1..2;");
        T.fault(2, "set ^a23456789=1..2;");
        T.fault(2, "set ^" + "abcdefgh".repeat(9) + "=1..2;");
        T.fault(2, "set s=1..2;min ^abcdefghi;");
        // Names are the same just if all their bytes are.
        T.fine("set abcdefgh=1..2;set abcdefgi=1..2;set abcdefg=1..2;set bbcdefgh=1..2;set Abcdefgh=1..2;set a=1..2;set A=1..2;set a0=1..2;", 0);
        T.fault(10, "set abcdefgh=1..2;set abcdefgi=1..2;set ^abcdefgh=1..2;");
        T.fault(3, "param abcdefgh=1;min ^abcdefg;");
        T.fault(3, "param abcdefg=1;min ^abcdefgh;");
        T.fault(3, "param abcdefgh=1;min ^abcdefgH;");
    }

    private static void keywords() {
        C.sentence("no KEYWORD: set param var whole from to row or if and not in sum different min max");
        for (String word : KEYWORDS) {
            T.fault(1, "set ^" + word + "=1..2;");
            T.fault(1, "set a=1..2;param p[^" + word + "]=1,2;");
            T.fault(1, "set a=1..2;row r[^" + word + " in a]:1<=2;");
            T.fine("set " + word.substring(0, word.length() - 1) + "=1..2;", 0);
            // Without its first letter min is the keyword in.
            if (!word.equals("min")) {
                T.fine("set " + word.substring(1) + "=1..2;", 0);
            }
            String upper = word.substring(0, 1).toUpperCase() + word.substring(1);
            if (word.length() < 8) {
                T.fine("set " + upper + "=1..2;", 0);
                T.fine("set " + word + "0=1..2;", 0);
                T.fine("set " + word + "s=1..2;set s" + word + "=1..2;", 0);
            } else {
                T.fault(2, "set ^" + upper + "=1..2;");
                T.fault(2, "set ^" + word + "0=1..2;");
                T.fault(2, "set ^" + word + "s=1..2;");
            }
        }
        // A keyword of nine letters is a word all the same.
        T.fine("var a whole from 0 to 1;different a;", 1);
        T.fault(2, "var a whole from 0 to 1;^diffErent a;");
    }

    private static void numbers() {
        C.sentence("NUMBER: 1 .. 6 digits (a digit behind a letter belongs to the name)");
        T.fine("set a=0..0;set b=9..9;set c=999999..999999;set d=000000..000000;set e=-999999..-999999;", 0);
        T.fault(2, "set a=^1000000..2;");
        T.fault(2, "set a=^0000001..2;");
        T.fault(2, "set a=1..^" + "9".repeat(99) + ";");
        T.fault(2, "min ^1234567;");
        T.fault(2, "min 1+^1234567;");
        T.fine("param a1=5;min a1;min a1*2;", 0);
        T.fault(3, "param a1=5;min ^a;");
        T.fault(1, "param a=5;min 1^a;");
        T.fault(3, "param a=5;min ^a1;");
        T.fine("var a from 0to 1;", 1);
        OptimaWorks x = Checks.reading("set a=999999..999999;min sum{i in a}(i-999990);min 000012;");
        C.same("999999 - 999990", x.goal(0, OptimaWorks.NONE, false), 9);
        C.same("000012", x.goal(1, OptimaWorks.NONE, false), 12);
    }

    private static void signs() {
        C.sentence("SIGNS: .. <= >= <> = < > : ; , [ ] { } ( ) + - * /");
        T.fine("set a=1..2;param p[a]=(1+2-3*4/5),-1;row r[i in a,j in a]if{1<2 and 2>1 or 1<>2}and i=j:1<=2 or 2>=1 or 1=1;", 0);
        for (char b : "!\"$%&'.?@\\^_`|~".toCharArray()) {
            T.fault(2, 11, "param p=1+1" + b + ";");
        }
        for (String sign : new String[] {":", "[", "]", "{", "}", "(", ")", "=", "<", ">", "<=", ">=", "<>", ".."}) {
            T.fault(1, "param p=1+1^" + sign + ";");
        }
    }

    private static void longest() {
        C.sentence("(the longest that can be)");
        T.fault(1, "row r:1^< =2;");
        T.fault(1, "row r if 1< ^=2:1<=2;");
        T.fault(1, "row r if 1> ^=2:1<=2;");
        T.fault(1, "row r if 1< ^>2:1<=2;");
        T.fault(1, "row r if 1=^<2:1<=2;");
        T.fault(1, "row r if 1=^>2:1<=2;");
        T.fault(1, "row r if 1>^<2:1<=2;");
        T.fault(1, "row r if 1<=^>2:1<=2;");
        T.fault(1, "row r if 1<=^=2:1<=2;");
        T.fault(1, "row r if 1<>^=2:1<=2;");
        T.fault(1, "row r if 1<^<=2:1<=2;");
        T.fault(1, "set a=1^<=2;");
        T.fault(2, "set a=1^. .2;");
        T.fault(2, "set a=1..^.2;");
        T.fault(1, "set a=1..^..2;");
        T.fault(2, "set a=1..^.;");
        T.fine("set a=-2..-1;", 0);
        T.fine("row r if 1<-2:1<=-2;", 0);
    }

    private static void noWords() {
        C.sentence("2 NO WORD: bytes that are none (the first one), a NAME of nine, a NUMBER of seven.");
        T.fault(2, "^???");
        T.fault(2, " ^?;");
        T.fault(2, "param p=^\0\0\0;");
        T.fault(2, "param p=1 ^\200\201\202 ;");
        T.edge("set abcdefgh=1..2;", 2, "set ^abcdefghi=1..2;");
        T.edge("set a=123456..123456;", 2, "set a=^1234567..1234567;");
        T.edge("set a=123456..123456;", 2, "set a=123456..^1234567;");
        // At a word that could not stand there anyway, too.
        T.fault(2, "^abcdefghi");
        T.fault(2, "^1234567");
        T.fault(2, "set a=1..2^?");
        T.fault(2, "set a=1..2;^?");
    }

    private static void tapeEnd() {
        C.sentence("(at the tape's end: its length)");
        String[] begun = {"set", "set a", "set a=", "set a=-", "set a=1", "set a=1..", "set a=1..2", "param p=1+", "param p=(1", "var x from 0 to",
            "row r:1<=2 or", "row r if", "min", "max 1", "different"};
        for (String text : begun) {
            T.fault(1, text);
            T.fault(1, text + " \t\r\n ");
            T.fault(1, text + " # behind it");
            T.fault(1, text + "#\n#\n");
        }
        // However long the tape is, it ends with its last byte, be that the beginning of a longer word or not.
        String[] noFirstWord = {"mi", "differen", "se", "i", "1", "<"};
        for (int length = 9; length <= 300; length++) {
            for (String word : noFirstWord) {
                T.fault(1, " ".repeat(length - word.length()) + "^" + word);
            }
            T.fault(2, " ".repeat(length - 1) + "^.");
            T.fault(1, " ".repeat(length - 3) + "min");
        }
        String full = "min 1" + " ".repeat(3995);
        T.fault(1, 4000, full);
        T.fine(full.substring(0, 3999) + ";", 0);
    }
}
