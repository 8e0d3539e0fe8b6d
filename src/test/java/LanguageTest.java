import java.io.IOException;
import java.nio.file.Files;
import java.nio.file.Path;
import java.util.regex.Matcher;
import java.util.regex.Pattern;

/** Rules of the language that can be seen in the text of the class; run from the project's folder. */
public final class LanguageTest {
    private static final Checks C = new Checks("LanguageTest");

    public static void main(String[] args) throws IOException {
        String text = Files.readString(Path.of("src/main/java/OptimaWorks.java"));
        String code = text.replaceAll("(?s)/\\*.*?\\*/", "").replaceAll("//[^\n]*", "").replaceAll("\"[^\"\n]*\"", "\"\"");
        String[] refused = {"->", "::", "\\bsynchronized\\b", "\\bassert\\b", "\\bfinally\\b", "\\bdouble\\b", "\\bfloat\\b",
            "\\bObject\\b", "\\bSystem\\.(?!arraycopy)", "\\bThread\\b", "\\bRandom\\b", "\\b(Math|Integer|Long)\\.\\w+Exact\\b",
            "\\bextends\\b", "static \\{", "\\bpublic static (?!final int NONE)", "\\bprotected\\b", "getMessage", "\\\\u",
            "catch \\((?!IllegalArgumentException )", "\\bwhile \\(true\\)", "for \\(;;", "\" \\+|\\+ \""};
        for (String pattern : refused) {
            C.same("found " + pattern, Pattern.compile(pattern).matcher(code).find(), false);
        }
        Matcher imports = Pattern.compile("import ([^;]+);").matcher(code);
        while (imports.find()) {
            C.same("import", imports.group(1), "java.util.Arrays");
        }
        Matcher thrown = Pattern.compile("throw ([^;]*);").matcher(code);
        while (thrown.find()) {
            String form = "new (IllegalArgument|IllegalState|IndexOutOfBounds)Exception\\(\\)";
            C.same(thrown.group(), thrown.group(1).matches(form), true);
        }
        Matcher parameters = Pattern.compile("\\n {4,8}[\\w\\[\\] ]+ \\w+\\(([^)]*)\\)[^;{]*\\{").matcher(code);
        while (parameters.find()) {
            C.same("parameters: " + parameters.group(1), parameters.group(1).split(",").length <= 7, true);
        }
        int classes = code.split("\\bclass\\b").length - 1;
        C.same(classes + " classes, at most twelve", classes <= 12, true);
        C.same("characters 0 to 127", text.chars().allMatch(c -> c < 128), true);
        lengths(code);
        C.finish();
    }

    /** Methods stay short: some sixty lines. */
    private static void lengths(String code) {
        Matcher start = Pattern.compile("\\n( {4}| {8})(?!static final class|private static final class)[\\w][^\\n;=]*\\([^\\n;]*\\{").matcher(code);
        while (start.find()) {
            int end = code.indexOf("\n" + start.group(1) + "}", start.start() + 1);
            long lines = code.substring(start.start() + 1, end + 1).chars().filter(c -> c == '\n').count();
            C.same(start.group().trim() + " has " + lines + " lines", lines <= 60, true);
        }
    }
}
